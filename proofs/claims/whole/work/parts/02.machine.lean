/-! A small machine over worlds: values whose references are numbers of cells; a frame is pc, named locals, stack; a heap is a number of cells and a function. zEx: from this frame the body comes to an end with Q. zCl: the method, called so, comes to an end with Q. An end is an answer or a thrown exception's kind. -/
def z_v (al : Nat → Nat) (v : Value) : Value := match v with
  | .ref i => .ref (al i)
  | u => u
def z_ok (n : Nat) (v : Value) : Prop := match v with
  | .ref i => i < n
  | _ => True
def z_E (kA : Nat → Nat) (al : Nat → Nat) (c : va_E) : va_E := match c with
  | .inl q => .inl (kA q.1, q.2)
  | .inr o => .inr (o.1, o.2.map (z_v al))
def z_okE (n : Nat) (c : va_E) : Prop := match c with
  | .inl _ => True
  | .inr o => ∀ v ∈ o.2, z_ok n v
/-- cells, what they hold, how many cells and slots may still be made -/
abbrev z_M : Type := Nat × (Nat → va_E) × Nat × Nat
/-- an answer, or the kind of what was thrown -/
abbrev z_O : Type := Option Value ⊕ Nat
/-- the launch, the law's own first state, classes and slots, classes of arrays -/
abbrev z_W : Type := Launch × State × va_G × (Nat → Nat)
abbrev z_Y : Type := MethodName × ByteArray × Nat × Option FieldType × List (Nat × Nat × Nat × Nat)
/-- the word that says a method's code -/
def z_cw (Y : z_Y) : Cond := if Y.2.2.2.2 = [] then .code Y.1 Y.2.1 Y.2.2.1 Y.2.2.2.1 else .codeWith Y.1 Y.2.1 Y.2.2.1 Y.2.2.2.1 Y.2.2.2.2
def z_ws (kA : Nat → Nat) (al : Nat → Nat) (M : z_M) : va_W := (List.range (M.1 - 2)).map fun j => (al (j + 2), z_E kA al (M.2.1 (j + 2)))
def z_A (w : z_W) : Nat → Prop := fun q => w.2.1.heap.size ≤ q
def z_tys (w : z_W) : List (ClassId × FieldType) := [(w.2.2.2 0, .int), (w.2.2.2 1, .long), (w.2.2.2 2, .boolean)]
/-- a word of the tables holds wherever the run can be -/
def z_has (w : z_W) (c : Cond) : Prop := ∀ (A : Array Value) (U : State), w.2.1.WarmedH U.vm → c.before A U = true
def z_Rel (w : z_W) (al : Nat → Nat) (M : z_M) (H : Heap) : Prop :=
  va_P w.2.2.1 vwCl (z_ws w.2.2.2 al M) H ∧ va_D (z_A w) (z_ws w.2.2.2 al M) ∧ (∀ i, 2 ≤ i → i < M.1 → z_okE M.1 (M.2.1 i)) ∧
  (∀ i, i < 2 → ∃ (L : Nat) (f : Nat → Int32), M.2.1 i = .inl (0, L, .inl f) ∧ va_X (al i) L f w.2.1 w.2.1.heap ∧ al i < w.2.1.heap.size ∧ al i = w.2.2.2 (10 + i)) ∧ 2 ≤ M.1
def z_In (w : z_W) (Y : z_Y) (d : Nat) (p : Program) (R : Room) (s : State) (m : MethodId) (meth : Method) (c : Code) : Prop :=
  p.tables.exec = Jvm.exec ∧ c.code = Y.2.1 ∧ c.maxLocals = Y.2.2.1 ∧ meth.sig.returnType = Y.2.2.2.1 ∧ meth.locks = false ∧ s.vm.findClass Y.1.cls = some m.cls ∧ meth.name = Y.1.name ∧
  c.exceptionTable.toList = tableOf Y.2.2.2.2 ∧ w.2.1.WarmedH s.vm ∧ d ≤ R.frames ∧ 64 * d ≤ R.locals
def z_Pt (w : z_W) (R : Room) (ae : Nat → Nat) (ne : Nat) (al : Nat → Nat) (M : z_M) (H : Heap) (locs : List Loc) (cells slots : Nat) : Prop :=
  va_S (z_A w) w.2.1.heap H locs ∧ (∀ i, i < ne → al i = ae i) ∧ ne ≤ M.1 ∧ cells + M.2.2.1 ≤ R.cells ∧ slots + M.2.2.2 ≤ R.slots
def z_Lv (al : Nat → Nat) (n nL : Nat) (ls : Array Slot) (lv : List (Nat × Value)) : Prop :=
  lv_has ls nL (lv.map fun q => (q.1, z_v al q.2)) ∧ ∀ q ∈ lv, z_ok n q.2
def z_exc (k : Nat) : String := if k = 1 then "java/lang/IllegalArgumentException" else if k = 2 then "java/lang/IllegalStateException" else "java/lang/UnsupportedOperationException"
def z_Out (w : z_W) (al : Nat → Nat) (n : Nat) (out : z_O) (o : Outcome) (t : State) : Prop := match out with
  | .inl v => o = .returned (v.map (z_v al)) ∧ ∀ u, v = some u → z_ok n u
  | .inr k => ∃ (q : Addr) (ce : Cell), o = .threw q ∧ t.heap[q]? = some ce ∧ ce.vm = .none ∧ w.2.1.vm.findClass (z_exc k) = some ce.cls
def z_Post (w : z_W) (s : State) (R : Room) (ae : Nat → Nat) (ne : Nat) (Q : z_O → z_M → Prop) (o : Outcome) (t : State) : Prop :=
  ∃ (out : z_O) (M : z_M) (al : Nat → Nat) (L : List Loc) (k n : Nat), Q out M ∧ z_Out w al M.1 out o t ∧ z_Rel w al M t.heap ∧ z_Pt w R ae ne al M t.heap L k n ∧
    s.WarmedH t.vm ∧ s.sameButNew ({ t with vm := s.vm } : State) L k n
def z_End (w : z_W) (below : List Frame) (s : State) (R : Room) (ae : Nat → Nat) (ne : Nat) (Q : z_O → z_M → Prop) : State → Prop := fun t =>
  ∃ o, t.status = .running ∧ Ended t below o ∧ z_Post w s R ae ne Q o t
def z_Ex (w : z_W) (Y : z_Y) (d : Nat) (Q : z_O → z_M → Prop) (pc : Nat) (lv : List (Nat × Value)) (st : List Value) (M : z_M) : Prop :=
  ∀ (p : Program) (e : Env) (R : Room) (s : State) (m : MethodId) (args : Array Value) (below : List Frame) (meth : Method) (c : Code) (H : Heap) (locs : List Loc) (cells slots : Nat) (al ae : Nat → Nat) (ne : Nat) (ls : Array Slot),
    z_In w Y d p R s m meth c → z_Rel w al M H → z_Pt w R ae ne al M H locs cells slots → z_Lv al M.1 Y.2.2.1 ls lv → (∀ v ∈ st, z_ok M.1 v) →
    W p w.1 e R s m args below meth c H locs cells slots (z_End w below s R ae ne Q) (F0 m pc ls (st.map (z_v al)))
def z_room (d : Nat) (M : z_M) : Room := { frames := d, cells := M.2.2.1, slots := M.2.2.2, locals := 64 * d }
def z_Pre (w : z_W) (al : Nat → Nat) (as : List Value) (M : z_M) : Array Value → State → Prop := fun a U =>
  a = (as.map (z_v al)).toArray ∧ w.2.1.WarmedH U.vm ∧ z_Rel w al M U.heap ∧ va_S (z_A w) w.2.1.heap U.heap [] ∧ ∀ v ∈ as, z_ok M.1 v
def z_Cl (w : z_W) (Y : z_Y) (d : Nat) (as : List Value) (M : z_M) (Q : z_O → z_M → Prop) : Prop :=
  ∀ al, MetFree w.1 Y.1 (headSpec [z_cw Y] (z_room d M)) (z_Pre w al as M) (fun _ _ _ _ _ => True) (fun _ st o t => z_Post w st (z_room d M) al M.1 Q o t)
-- ---------- small facts
theorem z_v_int {al : Nat → Nat} {x : Int32} : z_v al (.int x) = .int x := rfl
theorem z_v_cat {al : Nat → Nat} (v : Value) : (z_v al v).category = v.category := by cases v <;> rfl
theorem z_v_ext {al be : Nat → Nat} {n : Nat} (h : ∀ i, i < n → be i = al i) {v : Value} (hv : z_ok n v) : z_v be v = z_v al v := by
  cases v with
  | ref i => exact congrArg Value.ref (h i hv)
  | _ => rfl
theorem z_ok_mono {n k : Nat} (h : n ≤ k) {v : Value} (hv : z_ok n v) : z_ok k v := by
  cases v with
  | ref i => exact Nat.lt_of_lt_of_le hv h
  | _ => trivial
theorem z_okE_mono {n k : Nat} (h : n ≤ k) {c : va_E} (hc : z_okE n c) : z_okE k c := by
  cases c with
  | inl q => trivial
  | inr o => exact fun v hv => z_ok_mono h (hc v hv)
theorem z_E_ext {kA al be : Nat → Nat} {n : Nat} (h : ∀ i, i < n → be i = al i) {c : va_E} (hc : z_okE n c) : z_E kA be c = z_E kA al c := by
  cases c with
  | inl q => rfl
  | inr o =>
    show (Sum.inr (o.1, o.2.map (z_v be)) : va_E) = .inr (o.1, o.2.map (z_v al))
    rw [List.map_congr_left (fun v hv => z_v_ext h (hc v hv))]
theorem z_st_ext {al be : Nat → Nat} {n : Nat} (h : ∀ i, i < n → be i = al i) {st : List Value} (hv : ∀ v ∈ st, z_ok n v) : st.map (z_v be) = st.map (z_v al) :=
  List.map_congr_left (fun v h9 => z_v_ext h (hv v h9))
theorem z_Lv_ext {al be : Nat → Nat} {n k nL : Nat} (hk : n ≤ k) (h : ∀ i, i < n → be i = al i) {ls : Array Slot} {lv : List (Nat × Value)} (hl : z_Lv al n nL ls lv) : z_Lv be k nL ls lv := by
  refine ⟨?_, fun q hq => z_ok_mono hk (hl.2 q hq)⟩
  have e : (lv.map fun q => (q.1, z_v be q.2)) = lv.map fun q => (q.1, z_v al q.2) := List.map_congr_left (fun q hq => by rw [z_v_ext h (hl.2 q hq)])
  rw [e]
  exact hl.1
theorem z_ws_get {kA al : Nat → Nat} {M : z_M} {i : Nat} (h2 : 2 ≤ i) (hi : i < M.1) : (z_ws kA al M)[i - 2]? = some (al i, z_E kA al (M.2.1 i)) := by
  unfold z_ws
  rw [List.getElem?_map, List.getElem?_range (by omega)]
  show some (al (i - 2 + 2), z_E kA al (M.2.1 (i - 2 + 2))) = _
  rw [Nat.sub_add_cancel h2]
theorem z_ws_set {kA al : Nat → Nat} {M : z_M} {i : Nat} (h2 : 2 ≤ i) (hi : i < M.1) (c : va_E) (a b : Nat) : (z_ws kA al M).set (i - 2) (al i, z_E kA al c) = z_ws kA al (M.1, va_up M.2.1 i c, a, b) := by
  apply List.ext_getElem?
  intro k
  unfold z_ws
  by_cases hk : k = i - 2
  · subst hk
    rw [List.getElem?_set_self (by simp; omega), List.getElem?_map, List.getElem?_range (by omega)]
    show _ = some (al (i - 2 + 2), z_E kA al (va_up M.2.1 i c (i - 2 + 2)))
    rw [Nat.sub_add_cancel h2]
    simp [va_up]
  · rw [List.getElem?_set_ne (Ne.symm hk), List.getElem?_map, List.getElem?_map]
    cases hq : (List.range (M.1 - 2))[k]? with
    | none => rfl
    | some j =>
      have hj : j = k := by
        have h9 := List.getElem?_eq_some_iff.mp hq
        obtain ⟨h8, h7⟩ := h9
        rw [List.getElem_range] at h7
        exact h7.symm
      subst hj
      have hne : ¬ j + 2 = i := by omega
      simp [va_up, hne]
theorem z_ws_push {kA al : Nat → Nat} {M : z_M} (h2 : 2 ≤ M.1) (hok : ∀ i, 2 ≤ i → i < M.1 → z_okE M.1 (M.2.1 i)) (q : Nat) (c : va_E) (hc : z_okE M.1 c) (a b : Nat) :
    z_ws kA al M ++ [(q, z_E kA al c)] = z_ws kA (va_up al M.1 q) (M.1 + 1, va_up M.2.1 M.1 c, a, b) := by
  have hext : ∀ i, i < M.1 → va_up al M.1 q i = al i := fun i hi => by
    have hne : ¬ i = M.1 := by omega
    simp [va_up, hne]
  unfold z_ws
  show _ = (List.range (M.1 + 1 - 2)).map _
  rw [show M.1 + 1 - 2 = (M.1 - 2) + 1 by omega, List.range_succ, List.map_append]
  congr 1
  · apply List.map_congr_left
    intro j hj
    have hj2 := List.mem_range.mp hj
    have hlt : j + 2 < M.1 := by omega
    have hne : ¬ j + 2 = M.1 := by omega
    show _ = (va_up al M.1 q (j + 2), z_E kA (va_up al M.1 q) (va_up M.2.1 M.1 c (j + 2)))
    have e1 : va_up M.2.1 M.1 c (j + 2) = M.2.1 (j + 2) := by simp [va_up, hne]
    rw [e1, hext _ hlt, z_E_ext hext (hok _ (by omega) hlt)]
  · show [(q, z_E kA al c)] = [(va_up al M.1 q (M.1 - 2 + 2), z_E kA (va_up al M.1 q) (va_up M.2.1 M.1 c (M.1 - 2 + 2)))]
    rw [Nat.sub_add_cancel h2]
    have e1 : va_up M.2.1 M.1 c M.1 = c := by simp [va_up]
    have e2 : va_up al M.1 q M.1 = q := by simp [va_up]
    rw [e1, e2, z_E_ext hext hc]
theorem z_up_old {al : Nat → Nat} {n q : Nat} : ∀ i, i < n → va_up al n q i = al i := fun i hi => by
  have e : ¬ i = n := by omega
  simp [va_up, e]
theorem z_Rel.set {w : z_W} {al : Nat → Nat} {M : z_M} {H H1 : Heap} {i : Nat} {c : va_E} (h : z_Rel w al M H) (h2 : 2 ≤ i) (hi : i < M.1) (hc : z_okE M.1 c)
    (hP : va_P w.2.2.1 vwCl ((z_ws w.2.2.2 al M).set (i - 2) (al i, z_E w.2.2.2 al c)) H1) (hD : va_D (z_A w) ((z_ws w.2.2.2 al M).set (i - 2) (al i, z_E w.2.2.2 al c))) : z_Rel w al (M.1, va_up M.2.1 i c, M.2.2) H1 := by
  rw [z_ws_set h2 hi c M.2.2.1 M.2.2.2] at hP hD
  refine ⟨hP, hD, fun j h3 h4 => ?_, fun j hj => ?_, h.2.2.2.2⟩
  · show z_okE M.1 (va_up M.2.1 i c j)
    by_cases e : j = i
    · subst e; simpa [va_up] using hc
    · simpa [va_up, e] using h.2.2.1 j h3 h4
  · obtain ⟨L, f, e1, e2, e3⟩ := h.2.2.2.1 j hj
    have e : ¬ j = i := by omega
    exact ⟨L, f, by simpa [va_up, e] using e1, e2, e3⟩
theorem z_Rel.push {w : z_W} {al : Nat → Nat} {M : z_M} {H H1 : Heap} {q : Nat} {c : va_E} {a b : Nat} (h : z_Rel w al M H) (hc : z_okE M.1 c)
    (hP : va_P w.2.2.1 vwCl (z_ws w.2.2.2 al M ++ [(q, z_E w.2.2.2 al c)]) H1) (hD : va_D (z_A w) (z_ws w.2.2.2 al M ++ [(q, z_E w.2.2.2 al c)])) : z_Rel w (va_up al M.1 q) (M.1 + 1, va_up M.2.1 M.1 c, a, b) H1 := by
  rw [z_ws_push h.2.2.2.2 h.2.2.1 q c hc a b] at hP hD
  have h2 := h.2.2.2.2
  refine ⟨hP, hD, fun j h3 h4 => ?_, fun j hj => ?_, Nat.le_succ_of_le h2⟩
  · show z_okE (M.1 + 1) (va_up M.2.1 M.1 c j)
    by_cases e : j = M.1
    · subst e; simpa [va_up] using z_okE_mono (Nat.le_succ _) hc
    · have h5 : j < M.1 := by have : j < M.1 + 1 := h4; omega
      simpa [va_up, e] using z_okE_mono (Nat.le_succ _) (h.2.2.1 j h3 h5)
  · obtain ⟨L, f, e1, e2, e3⟩ := h.2.2.2.1 j hj
    have e : ¬ j = M.1 := by omega
    have e9 : va_up al M.1 q j = al j := z_up_old j (by omega)
    refine ⟨L, f, by simpa [va_up, e] using e1, ?_⟩
    rw [e9]
    exact ⟨e2, e3⟩
theorem W.mono9 {p : Program} {l : Launch} {e : Env} {R : Room} {s : State} {m : MethodId} {args : Array Value} {below : List Frame} {meth : Method} {c : Code} {H : Heap} {locs : List Loc} {cells slots : Nat} {Q Q' : State → Prop} {g : JFrame}
    (h : ∀ t, Q t → Q' t) (k : W p l e R s m args below meth c H locs cells slots Q g) : W p l e R s m args below meth c H locs cells slots Q' g := fun T hT X => by
  obtain ⟨t, a, b⟩ := k T hT X
  exact ⟨t, a, h t b⟩
/-- a word that stays where the tables only get warmer -/
def z_gw (c : Cond) : Bool := match c with
  | .fieldLinkNest .. => true
  | .methodLinkNest .. => true
  | c => goodWord c
theorem z_gw_at {c : Cond} {s U : State} {A A' : Array Value} (hW : s.WarmedH U.vm) (hg : z_gw c = true) (h : c.before A s = true) : c.before A' U = true := by
  by_cases h1 : goodWord c = true
  · exact word_at hW (good_of_word h1) h
  · cases c <;> first
      | exact absurd hg h1
      | exact va_Nw.use rfl (va_Nw.warmF hW (va_Nw.of rfl h))
      | exact va_Nw.use rfl (va_Nw.warmM hW (va_Nw.of rfl h))
theorem z_has_of {w : z_W} {c : Cond} {A : Array Value} (hg : z_gw c = true) (h : c.before A w.2.1 = true) : z_has w c := fun _ _ hW => z_gw_at hW hg h
theorem z_K {w : z_W} {s : State} (h : va_K w.2.2.1 vwCl (z_tys w) w.2.1) (hW : w.2.1.WarmedH s.vm) : va_K w.2.2.1 vwCl (z_tys w) s := va_K.moved hW.alike h
theorem z_cw_spec {Y : z_Y} {s : State} {m : MethodId} {a : Array Value} (hn : s.methodNamed? Y.1 = some m) (h : (z_cw Y).before a s = true) : ∃ meth c, s.vm.method? m = some meth ∧ meth.code = some c ∧ c.code = Y.2.1 ∧ c.maxLocals = Y.2.2.1 ∧ meth.sig.returnType = Y.2.2.2.1 ∧ meth.locks = false ∧
    c.exceptionTable.toList = tableOf Y.2.2.2.2 ∧ parseMethodDescriptor Y.1.desc = some meth.sig := by
  unfold z_cw at h
  split at h
  next h0 =>
    obtain ⟨meth, c, h1, h2, h3, h4, h5, h6, h7, h8⟩ := Cond.code_spec hn h
    refine ⟨meth, c, h1, h2, h3, h4, h5, h6, ?_, h8⟩
    rw [Array.isEmpty_iff.mp h7, h0]
    rfl
  next h0 =>
    obtain ⟨m9, meth, c, hn9, h1, h2, h3, h4, h7, h5, h6, h8⟩ := Cond.codeWith_spec h
    cases Option.some.inj (hn9.symm.trans hn)
    exact ⟨meth, c, h1, h2, h3, h4, h5, h6, by rw [← h7, table_eq], h8⟩
