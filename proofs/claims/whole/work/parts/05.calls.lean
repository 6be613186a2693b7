section ZC
variable {w : z_W} {Y : z_Y} {d : Nat} {Q : z_O → z_M → Prop} {pc : Nat} {lv lv' : List (Nat × Value)} {st : List Value} {M : z_M}
-- ---------- the ends
theorem z_endw {below : List Frame} {s : State} {R : Room} {ae al : Nat → Nat} {ne : Nat} {H : Heap} {locs : List Loc} {cells slots : Nat} {v : Option Value} {a : Array Value} (hR : z_Rel w al M H) (hT : z_Pt w R ae ne al M H locs cells slots) (hv : ∀ u, v = some u → z_ok M.1 u) (hq : Q (.inl v) M) :
    ∀ t, MQ below (fun _ _ o t => o = .returned (v.map (z_v al)) ∧ t.heap = H) a s cells slots (z_A w) t → z_End w below s R ae ne Q t := by
  rintro t ⟨o, h1, h2, ⟨rfl, h4⟩, L, ⟨-, hW', hs⟩, hL⟩
  exact ⟨_, h1, h2, .inl v, M, al, L, cells, slots, hq, ⟨rfl, hv⟩, by rw [h4]; exact hR, ⟨⟨by rw [h4]; exact hT.1.1, by rw [h4]; exact hT.1.2.1, hL⟩, hT.2.1, hT.2.2.1, hT.2.2.2.1, hT.2.2.2.2⟩, hW', hs⟩
theorem z_iret {v : Int32} (dg : decode Y.2.1 pc = .ok (.ireturn, 1)) (hr : Y.2.2.2.1 = some .int) (hq : Q (.inl (some (.int v))) M) : z_Ex w Y d Q pc lv [.int v] M := by
  intro p e R s m args below meth c H locs cells slots al ae ne ls C hR hT hl ho
  exact W.mono9 (z_endw (v := some (.int v)) (a := args) hR hT (fun u hu => by cases hu; trivial) hq) (W.iret C.1 C.2.1 (C.2.2.2.1.trans hr) (fun t ht _ => ⟨rfl, ht⟩) hT.1.2.2 dg C.2.2.2.2.1)
theorem z_zret {v : Int32} {ty : FieldType} (dg : decode Y.2.1 pc = .ok (.ireturn, 1)) (hr : Y.2.2.2.1 = some ty) (hn : narrow ty (.int v) = .int v) (hq : Q (.inl (some (.int v))) M) : z_Ex w Y d Q pc lv [.int v] M := by
  intro p e R s m args below meth c H locs cells slots al ae ne ls C hR hT hl ho
  exact W.mono9 (z_endw (v := some (.int v)) (a := args) hR hT (fun u hu => by cases hu; trivial) hq) (W.zret C.1 C.2.1 (C.2.2.2.1.trans hr) hn (fun t ht _ => ⟨rfl, ht⟩) hT.1.2.2 dg C.2.2.2.2.1)
theorem z_lret {v : Int64} (dg : decode Y.2.1 pc = .ok (.lreturn, 1)) (hr : Y.2.2.2.1 = some .long) (hq : Q (.inl (some (.long v))) M) : z_Ex w Y d Q pc lv [.long v] M := by
  intro p e R s m args below meth c H locs cells slots al ae ne ls C hR hT hl ho
  exact W.mono9 (z_endw (v := some (.long v)) (a := args) hR hT (fun u hu => by cases hu; trivial) hq) (W.lret C.1 C.2.1 (C.2.2.2.1.trans hr) (fun t ht _ => ⟨rfl, ht⟩) hT.1.2.2 dg C.2.2.2.2.1)
theorem z_vret (dg : decode Y.2.1 pc = .ok (.return_, 1)) (hr : Y.2.2.2.1 = none) (hq : Q (.inl none) M) : z_Ex w Y d Q pc lv [] M := by
  intro p e R s m args below meth c H locs cells slots al ae ne ls C hR hT hl ho
  exact W.mono9 (z_endw (v := none) (a := args) hR hT (fun u hu => by cases hu) hq) (W.vret C.1 C.2.1 (C.2.2.2.1.trans hr) (fun t ht _ => ⟨rfl, ht⟩) hT.1.2.2 dg C.2.2.2.2.1)
theorem z_aret {v : Value} {rt : FieldType} (dg : decode Y.2.1 pc = .ok (.areturn, 1)) (hr : Y.2.2.2.1 = some rt) (hrt : (∃ n, rt = .object n) ∨ ∃ t, rt = .array t) (hv : v = .null ∨ ∃ a, v = .ref a) (hq : Q (.inl (some v)) M) : z_Ex w Y d Q pc lv [v] M := by
  intro p e R s m args below meth c H locs cells slots al ae ne ls C hR hT hl ho
  refine W.mono9 (z_endw (v := some v) (a := args) hR hT (fun u hu => by cases hu; exact z_oh ho) hq) (W.aret C.1 C.2.1 (C.2.2.2.1.trans hr) hrt ?_ (fun t ht _ => ⟨rfl, ht⟩) hT.1.2.2 dg C.2.2.2.2.1)
  rcases hv with rfl | ⟨a, rfl⟩
  · exact Or.inl rfl
  · exact Or.inr ⟨al a, rfl⟩
-- ---------- the entry
theorem z_args_map {al : Nat → Nat} : ∀ (as : List Value) (i : Nat), lv_args i (as.map (z_v al)) = (lv_args i as).map fun q => (q.1, z_v al q.2)
  | [], _ => rfl
  | v :: vs, i => by
    show (i, z_v al v) :: lv_args (if (z_v al v).category = 2 then i + 2 else i + 1) (vs.map (z_v al)) = (i, z_v al v) :: (lv_args (if v.category = 2 then i + 2 else i + 1) vs).map _
    rw [z_v_cat, z_args_map vs]
theorem z_args_mem : ∀ (as : List Value) (i : Nat) (q : Nat × Value), q ∈ lv_args i as → q.2 ∈ as
  | [], _, q, h => by cases h
  | v :: vs, i, q, h => by
    rcases List.mem_cons.mp h with rfl | h9
    · exact List.mem_cons_self
    · exact List.mem_cons_of_mem _ (z_args_mem vs _ q h9)
theorem z_sl_len {al : Nat → Nat} : ∀ as : List Value, (lg_sl (as.map (z_v al))).length = (lg_sl as).length
  | [] => rfl
  | v :: vs => by
    have ih := z_sl_len (al := al) vs
    unfold lg_sl at ih ⊢
    rw [List.map_cons, List.flatMap_cons, List.flatMap_cons, List.length_append, List.length_append, ih, z_v_cat]
    split <;> rfl
theorem z_Cl_of {as : List Value} (hp : plainName Y.1.cls = true) (hn : (lg_sl as).length ≤ Y.2.2.1) (k : z_Ex w Y d Q 0 (lv_args 0 as) [] M) : z_Cl w Y d as M Q := by
  intro al
  refine MetFree.of_bodyS (code := Y.2.1) (maxLocals := Y.2.2.1) (ret := Y.2.2.2.1) hp ?_ ?_
  · intro args s m h hn
    obtain ⟨meth, c, h1, h2, h3, h4, h5, h6, -, -⟩ := z_cw_spec hn (atoms_spec (ws := [z_cw Y]) h _ List.mem_cons_self)
    exact ⟨meth, c, h1, h2, h3, h4, h5, h6⟩
  · intro p e s m args below meth c s₁ B hml hP _
    obtain ⟨rfl, hW, hR, hS, hok⟩ := hP
    have hh0 : s₁.heap = s.heap := by rw [B.state]; rfl
    have ht : c.exceptionTable.toList = tableOf Y.2.2.2.2 := by
      obtain ⟨meth9, c9, h1, h2, -, -, -, -, h7, -⟩ := z_cw_spec B.named (atoms_spec (ws := [z_cw Y]) B.pre _ List.mem_cons_self)
      cases Option.some.inj (h1.symm.trans B.method)
      cases Option.some.inj (h2.symm.trans (Stand.of_body B).code)
      exact h7
    have hl := lv_entry (as.map (z_v al)) (n := Y.2.2.1) (by rw [z_sl_len]; exact hn)
    rw [z_args_map] at hl
    have C : z_In w Y d p (z_room d M) s m meth c := ⟨B.exec, B.bytes, hml, B.returns, B.notSynchronized, findClass_of_methodNamed B.named, (name_of_methodNamed B.named B.method).1, ht, hW, Nat.le_refl _, Nat.le_refl _⟩
    have k9 := k p e (z_room d M) s m (as.map (z_v al)).toArray below meth c s.heap [] 0 0 al al M.1 _ C hR ⟨hS, fun _ _ => rfl, Nat.le_refl _, by show 0 + M.2.2.1 ≤ M.2.2.1; omega, by show 0 + M.2.2.2 ≤ M.2.2.2; omega⟩ ⟨hl, fun q hq => hok _ (z_args_mem as 0 q hq)⟩ (fun v h => by cases h)
    have e1 : F0 m 0 ((lg_sl (as.map (z_v al)) ++ List.replicate (Y.2.2.1 - (lg_sl (as.map (z_v al))).length) Slot.unset).toArray) (([] : List Value).map (z_v al)) = entryFrame m (as.map (z_v al)).toArray Y.2.2.1 := (lg_entry_eq m (as.map (z_v al)) Y.2.2.1).symm
    rw [e1] at k9
    obtain ⟨t, a1, o, b1, b2, b3⟩ := k9 s₁ hh0 (Stand.of_body B)
    exact ⟨t, o, a1, b1, b2, b3⟩
-- ---------- a call, either end
theorem z_back {l : Launch} {R rm : Room} {p : Program} {e : Env} {below : List Frame} {s U : State} {sargs a : Array Value} {y : z_Y} {len W9 : Nat} {m : MethodId} {meth : Method} {c : Code} {Ls : List Loc} {c0 s0 : Nat} {g : JFrame} {ig : Instr} {mk : MethodId}
    {Pc : Array Value → State → Prop} {Qf : Array Value → State → Outcome → State → Prop} {E : State → Outcome → State → List Loc → Nat → Nat → Prop}
    (hM : MetFree l y.1 (headSpec [z_cw y] rm) Pc (fun _ _ _ _ _ => True) Qf)
    (hQ : ∀ st o t, Qf a st o t → ∃ L k n, st.WarmedH t.vm ∧ st.sameButNew ({ t with vm := st.vm } : State) L k n ∧ E st o t L k n)
    (X : Stand p l e R s m sargs below meth c U Ls c0 s0) (hg : g.method = m) (hsize : g.locals.size = c.maxLocals) (hdg : decode c.code g.pc = .ok (ig, len)) (hW9 : 2 * g.monitorRoom + (g.stack.map fun v => v.category).sum ≤ W9) (hn : U.methodNamed? y.1 = some mk)
    (hframes : rm.frames + 1 ≤ R.frames) (hlocals : W9 + (y.2.2.1 + 11) + rm.locals ≤ R.locals) (h2 : (z_cw y).before a U = true) (h3 : (Cond.initialized y.1.cls).before a U = true) (h4 : c0 + rm.cells ≤ R.cells) (h5 : s0 + rm.slots ≤ R.slots)
    (hP : Pc a (U.calling g mk a)) :
    ∃ (o : Outcome) (t : State) (L : List Loc) (k n : Nat) (B : State), E (U.calling g mk a) o t L k n ∧ Stand p l e R s m sargs below meth c B (Ls ++ L) (c0 + k) (s0 + n) ∧ B.heap = t.heap ∧ B.vm = t.vm ∧
      ((∃ v, o = .returned v ∧ Steps p.tables e below (doInvoke e (U.setTop g) [] mk a).1 (B.setTop { g with pc := g.pc + len, stack := v.toList ++ g.stack })) ∨
       ∃ q, o = .threw q ∧ Steps p.tables e below (doInvoke e (U.setTop g) [] mk a).1 ((B.setTop g).pushFrame (.throwing q))) := by
  have h1 : (headSpec [z_cw y] rm).pre.before a U = true := atoms_intro fun z hz => by
    rcases List.mem_cons.mp hz with rfl | h
    · exact h2
    · cases h
  obtain ⟨methY, cY, hmY, hcY, -, hlY, -, -, -, -⟩ := z_cw_spec hn h2
  obtain ⟨kY, hkY, -⟩ := className_of_methodNamed hn
  have hinitY : kY.init = .initialized := Cond.initialized_spec (findClass_of_methodNamed hn) hkY h3
  have h : At U g.method c below := by rw [hg]; exact X.here
  have hl9 : W9 + (y.2.2.1 + 11) + (headSpec [z_cw y] rm).room.locals ≤ R.locals := hlocals
  have happ : (headSpec [z_cw y] rm).appliesLoose y.1 e.platform (U.calling g mk a) = true :=
    Spec.appliesLoose_calling (g := g) h hdg hn hkY hinitY (X.room_calling (g := g) (R' := (headSpec [z_cw y] rm).room) hsize hmY hcY hframes (by rw [hlY]; omega) h4 h5) h1
  obtain ⟨mid, hmid⟩ := h.above
  have hfr : (U.setTop g).frames = (.java g :: mid) ++ below := by rw [State.frames_setTop' g h.top, hmid]; rfl
  obtain ⟨o, t, hsteps, -, hend, hq⟩ := Steps.callFree hM p X.admits X.cas X.clock (acts := []) hfr happ hP trivial
  rw [State.frames_setTop' g h.top] at hend
  obtain ⟨g₀, hg0⟩ := Option.isSome_iff_exists.mp h.top
  obtain ⟨r, hr⟩ := State.topJava?_eq_some.mp hg0
  have hq' : Qf a (U.calling g mk a) o t := hq
  obtain ⟨L, k, n, hWt, hsm, hE⟩ := hQ _ _ _ hq'
  have hW' : U.WarmedH t.vm := hWt
  have hr' : (({ U with heap := t.heap, slotsUsed := t.slotsUsed } : State).setVm t.vm).frames = .java g₀ :: r := hr
  obtain ⟨e2, q2, q3, q4, q5, q6⟩ := id hsm
  have e3 : t = ({ (U.calling g mk a).setFrames t.frames with heap := t.heap, slotsUsed := t.slotsUsed } : State).setVm t.vm := by
    have e4 : t = ({ t with vm := (U.calling g mk a).vm } : State).setVm t.vm := rfl
    rw [e2] at e4
    exact e4
  have hsame : U.sameButNew ({ U with heap := t.heap, slotsUsed := t.slotsUsed } : State) L k n := by
    refine ⟨?_, q2, q3, q4, q5, q6⟩
    obtain ⟨t9, ht9, -⟩ := State.frames_cons hr
    show ({ U with heap := t.heap, slotsUsed := t.slotsUsed } : State) = { U.setFrames U.frames with heap := t.heap, slotsUsed := t.slotsUsed }
    rw [State.setFrames_self ht9]
  have XB : Stand p l e R s m sargs below meth c (({ U with heap := t.heap, slotsUsed := t.slotsUsed } : State).setVm t.vm) (Ls ++ L) (c0 + k) (s0 + n) :=
    ⟨X.admits, X.cas, X.clock, X.frames, X.room, X.hears, X.method, X.code, (X.here.setHeapUsed t.heap t.slotsUsed).setVm hW'.alike, X.tail, State.WarmedH.trans X.warmed hW', X.limits, X.bytes, X.same.trans (hsame.setVm s.vm)⟩
  refine ⟨o, t, L, k, n, _, hE, XB, rfl, rfl, ?_⟩
  cases o with
  | returned v =>
    refine Or.inl ⟨v, rfl, ?_⟩
    obtain ⟨c₂, i₂, len₂, hc₂, hd₂, hf₂⟩ := hend
    have hcc : c₂ = c := by
      have h9 : t.code? g.method = U.code? g.method := by
        rw [State.code?_eq, State.code?_eq, hW'.alike.method?]
      exact Option.some.inj (hc₂.symm.trans (h9.trans h.code))
    subst hcc
    have hlen : len₂ = len := by rw [hdg] at hd₂; cases hd₂; rfl
    subst hlen
    have hs₂ : t = (({ U with heap := t.heap, slotsUsed := t.slotsUsed } : State).setVm t.vm).setTop { g with pc := g.pc + len₂, stack := v.toList ++ g.stack } := by
      refine e3.trans ?_
      rw [hf₂, State.calling_eq h.top, State.setFrames_setFrames, State.setTop_of_frames _ hr', hr]
      rfl
    rw [← hs₂]
    exact hsteps
  | threw q =>
    refine Or.inr ⟨q, rfl, ?_⟩
    have hf₂ : t.frames = .throwing q :: .java g :: U.frames.tail := hend
    have hs₂ : t = ((({ U with heap := t.heap, slotsUsed := t.slotsUsed } : State).setVm t.vm).setTop g).pushFrame (.throwing q) := by
      refine e3.trans ?_
      rw [hf₂, State.calling_eq h.top, State.setFrames_setFrames, State.pushFrame, State.frames_setTop _ hr', State.setTop_of_frames _ hr', State.setFrames_setFrames, hr]
      rfl
    rw [← hs₂]
    exact hsteps
/-- a site: the instruction at pc goes to y, with the arguments as (the receiver first), leaving rest -/
def z_site (w : z_W) (Y : z_Y) (pc : Nat) (y : z_Y) (oc : Option String) (as : List Value) : Prop :=
  ∀ {p : Program} {e : Env} {R : Room} {s : State} {m : MethodId} {args : Array Value} {below : List Frame} {meth : Method} {c : Code} {T : State} {locs : List Loc} {cells slots : Nat} (ls : Array Slot) (al : Nat → Nat) (rest : List Value),
    Stand p w.1 e R s m args below meth c T locs cells slots → p.tables.exec = Jvm.exec → c.code = Y.2.1 → s.vm.findClass Y.1.cls = some m.cls → w.2.1.WarmedH s.vm →
    (∀ C, oc = some C → ∃ (i : Nat) (cell : Cell), as.head? = some (.ref i) ∧ T.heap[al i]? = some cell ∧ cell.vm.isStatics = false ∧ s.vm.findClass C = some cell.cls) →
    ∃ (vm₁ : Vm) (mk : MethodId) (ig : Instr), decode c.code pc = .ok (ig, 3) ∧ s.WarmedH vm₁ ∧ s.methodNamed? y.1 = some mk ∧
      ∀ target, (∀ acts, Steps p.tables e below (doInvoke e ((T.setVm vm₁).setTop (F0 m pc ls rest)) acts mk (as.map (z_v al)).toArray).1 target) → Steps p.tables e below (T.setTop (F0 m pc ls ((as.reverse).map (z_v al) ++ rest))) target
def z_np (y : MethodName) (n : Nat) : Prop := y.cls ≠ "java/lang/invoke/MethodHandle" ∧ y.cls ≠ "java/lang/invoke/VarHandle" ∧ (parseMethodDescriptor y.desc).map (fun d => d.parameters.length) = some n
theorem z_np_len {y : MethodName} {n : Nat} (h : z_np y n) (sig) (hs : parseMethodDescriptor y.desc = some sig) : n = sig.parameters.length := by
  have h2 := h.2.2
  rw [hs] at h2
  exact (Option.some.inj h2).symm
theorem z_cw_named {Y : z_Y} {s : State} {a : Array Value} (h : (z_cw Y).before a s = true) : ∃ m, s.methodNamed? Y.1 = some m := by
  unfold z_cw at h
  split at h
  · exact Cond.code_named h
  · obtain ⟨m9, meth, c, hn9, -⟩ := Cond.codeWith_spec h
    exact ⟨m9, hn9⟩
theorem z_siteV {y : z_Y} {idx n i : Nat} {C : String} {as : List Value} (hdg : decode Y.2.1 pc = .ok (.invokevirtual idx, 3)) (hp : z_np y.1 n) (hlen : as.length = n)
    (h1 : z_has w (.methodLink Y.1.cls idx y.1) ∨ ∃ host, z_has w (.methodLinkNest Y.1.cls idx y.1 host)) (h2 : z_has w (.instanceMethod y.1)) (h3 : z_has w (.selects C y.1 y.1)) (h4 : z_has w (z_cw y)) : z_site w Y pc y (some C) (.ref i :: as) := by
  intro p e R s m args below meth c T locs cells slots ls al rest X hexec hb hown hW hrc
  obtain ⟨i9, cellB, e1, hcell, hobj, hcls⟩ := hrc C rfl
  cases e1
  obtain ⟨mk, methM, hnamed, hmethM, hstM, habM⟩ := Cond.instanceMethod_spec (h2 args s hW)
  obtain ⟨methM', cM, hmethM', -, -, -, -, -, -, hsigM⟩ := z_cw_spec hnamed (h4 args s hW)
  cases hmethM.symm.trans hmethM'
  obtain ⟨c2, r2, m2, q1, q2, q3, q4, kP, hkP, hkPi⟩ := Cond.selects_spec (h3 args s hW)
  cases hcls.symm.trans q1
  cases (State.methodFound?_of_named hnamed ⟨hp.1, hp.2.1⟩).symm.trans q2
  cases hnamed.symm.trans q3
  have hselP : selectMethod e.platform s.vm cellB.cls mk = .method mk := by rw [Launch.admits_selectMethod X.admits]; exact q4
  have hst : (F0 m pc ls (((Value.ref i :: as).reverse).map (z_v al) ++ rest)).stack = (as.map (z_v al)).reverse ++ .ref (al i) :: rest := by
    show ((Value.ref i :: as).reverse).map (z_v al) ++ rest = _
    rw [List.map_reverse, List.map_cons, List.reverse_cons, List.append_assoc]
    rfl
  have hl9 : (as.map (z_v al)).length = methM.sig.parameters.length := by rw [List.length_map, hlen]; exact z_np_len hp _ hsigM
  rcases h1 with h1 | ⟨host, h1⟩
  · obtain ⟨vm₁, X₁, hstep₁⟩ := X.invokevirtual hexec hown (h1 args s hW) hnamed hmethM hstM hkP hkPi ⟨hp.1, hp.2.1⟩ (a := al i) (cell := cellB) hcell
      (fun z h => by rw [h] at hobj; cases hobj) hselP hmethM habM hkP hkPi (g := F0 m pc ls (((Value.ref i :: as).reverse).map (z_v al) ++ rest)) rfl (argsL := as.map (z_v al)) (rest := rest) hl9 hst (by rw [hb]; exact hdg)
    exact ⟨vm₁, mk, _, by rw [hb]; exact hdg, X₁.warmed, hnamed, hstep₁⟩
  · obtain ⟨vm₁, X₁, hstep₁⟩ := X.invokevirtualNest hexec hown (h1 args s hW) hnamed hmethM hstM hkP hkPi ⟨hp.1, hp.2.1⟩ (a := al i) (cell := cellB) hcell
      (fun z h => by rw [h] at hobj; cases hobj) hselP hmethM habM hkP hkPi (g := F0 m pc ls (((Value.ref i :: as).reverse).map (z_v al) ++ rest)) rfl (argsL := as.map (z_v al)) (rest := rest) hl9 hst (by rw [hb]; exact hdg)
    exact ⟨vm₁, mk, _, by rw [hb]; exact hdg, X₁.warmed, hnamed, hstep₁⟩
theorem z_siteS {y : z_Y} {idx n : Nat} {as : List Value} (hdg : decode Y.2.1 pc = .ok (.invokestatic idx, 3)) (hp : z_np y.1 n) (hlen : as.length = n)
    (h1 : z_has w (.methodLink Y.1.cls idx y.1) ∨ ∃ host, z_has w (.methodLinkNest Y.1.cls idx y.1 host)) (h2 : z_has w (.static y.1)) (h3 : z_has w (.initialized y.1.cls)) (h4 : z_has w (z_cw y)) : z_site w Y pc y none as := by
  intro p e R s m args below meth c T locs cells slots ls al rest X hexec hb hown hW hrc
  obtain ⟨mk, hnamed⟩ := z_cw_named (h4 args s hW)
  obtain ⟨methM, cM, hmethM, -, -, -, -, -, -, hsigM⟩ := z_cw_spec hnamed (h4 args s hW)
  have hstatic : methM.isStatic = true := Cond.static_spec hnamed hmethM (h2 args s hW)
  obtain ⟨kP, hkP, -⟩ := className_of_methodNamed hnamed
  have hinitP : kP.init = .initialized := Cond.initialized_spec (findClass_of_methodNamed hnamed) hkP (h3 args s hW)
  have hst : (F0 m pc ls ((as.reverse).map (z_v al) ++ rest)).stack = (as.map (z_v al)).reverse ++ rest := by
    show (as.reverse).map (z_v al) ++ rest = _
    rw [List.map_reverse]
  have hl9 : (as.map (z_v al)).length = methM.sig.parameters.length := by rw [List.length_map, hlen]; exact z_np_len hp _ hsigM
  rcases h1 with h1 | ⟨host, h1⟩
  · obtain ⟨vm₁, X₁, hstep₁⟩ := X.invokestatic hexec hown (h1 args s hW) hnamed hmethM hstatic hkP hinitP ⟨hp.1, hp.2.1⟩ (g := F0 m pc ls ((as.reverse).map (z_v al) ++ rest)) rfl (argsL := as.map (z_v al)) (rest := rest) hl9 hst (by rw [hb]; exact hdg)
    exact ⟨vm₁, mk, _, by rw [hb]; exact hdg, X₁.warmed, hnamed, hstep₁⟩
  · obtain ⟨vm₁, X₁, hstep₁⟩ := X.invokestaticNest hexec hown (h1 args s hW) hnamed hmethM hstatic hkP hinitP ⟨hp.1, hp.2.1⟩ (g := F0 m pc ls ((as.reverse).map (z_v al) ++ rest)) rfl (argsL := as.map (z_v al)) (rest := rest) hl9 hst (by rw [hb]; exact hdg)
    exact ⟨vm₁, mk, _, by rw [hb]; exact hdg, X₁.warmed, hnamed, hstep₁⟩
theorem z_siteI {y : z_Y} {idx n i : Nat} {as : List Value} (hdg : decode Y.2.1 pc = .ok (.invokespecial idx, 3)) (hp : z_np y.1 n) (hlen : as.length = n) (hy1 : y.1.name = "<init>") (hy2 : y.2.2.2.1 = none) (hy3 : y.2.2.2.2 = [])
    (h1 : z_has w (.methodLink Y.1.cls idx y.1) ∨ ∃ host, z_has w (.methodLinkNest Y.1.cls idx y.1 host)) (h2 : z_has w (.instanceMethod y.1)) (h4 : z_has w (z_cw y)) : z_site w Y pc y none (.ref i :: as) := by
  intro p e R s m args below meth c T locs cells slots ls al rest X hexec hb hown hW hrc
  have hpl : e.platform.magicAccessors = ({} : Platform).magicAccessors := by rw [X.admits.platform]
  have hst : (F0 m pc ls (((Value.ref i :: as).reverse).map (z_v al) ++ rest)).stack = (as.map (z_v al)).reverse ++ .ref (al i) :: rest := by
    show ((Value.ref i :: as).reverse).map (z_v al) ++ rest = _
    rw [List.map_reverse, List.map_cons, List.reverse_cons, List.append_assoc]
    rfl
  have hl9 : ∀ sig, parseMethodDescriptor y.1.desc = some sig → (as.map (z_v al)).length = sig.parameters.length := fun sig hs => by rw [List.length_map, hlen]; exact z_np_len hp _ hs
  have h4 : z_has w (.code y.1 y.2.1 y.2.2.1 none) := fun A U hU => by
    have h9 := h4 A U hU
    unfold z_cw at h9
    rw [if_pos hy3, hy2] at h9
    exact h9
  rcases h1 with h1 | ⟨host, h1⟩
  · obtain ⟨mk, methM, cM, kP, vm₁, hnamed, -, -, -, -, -, -, -, hW₁, hstep₁⟩ := Steps.initColdArgs (e := e) X.here hexec X.warmed hpl hown hy1 ⟨hp.1, hp.2.1⟩ (h1 args s hW) (h2 args s hW) (h4 args s hW) (f := F0 m pc ls (((Value.ref i :: as).reverse).map (z_v al) ++ rest)) rfl hl9 hst (by rw [hb]; exact hdg)
    exact ⟨vm₁, mk, _, by rw [hb]; exact hdg, hW₁, hnamed, hstep₁⟩
  · obtain ⟨mk, methM, cM, kP, vm₁, hnamed, -, -, -, -, -, -, -, hW₁, hstep₁⟩ := Steps.initColdArgsNest (e := e) X.here hexec X.warmed hpl hown hy1 ⟨hp.1, hp.2.1⟩ (h1 args s hW) (h2 args s hW) (h4 args s hW) (f := F0 m pc ls (((Value.ref i :: as).reverse).map (z_v al) ++ rest)) rfl hl9 hst (by rw [hb]; exact hdg)
    exact ⟨vm₁, mk, _, by rw [hb]; exact hdg, hW₁, hnamed, hstep₁⟩
/-- a call: behind it, or out with what was thrown -/
theorem z_call {y : z_Y} {oc : Option String} {d' : Nat} {as st0 : List Value} {Q' : z_O → z_M → Prop} (hw : z_Wok w) (hnt : Y.2.2.2.2 = []) (hsite : z_site w Y pc y oc as) (hst : as.reverse ++ st = st0) (hcl : z_Cl w y d' as M Q') (hd : d' + 1 ≤ d)
    (hrc : ∀ C, oc = some C → ∃ (i ci : Nat) (fs : List Value) (q : vw_C), as.head? = some (.ref i) ∧ 2 ≤ i ∧ M.2.1 i = .inr (ci, fs) ∧ vwCl[ci]? = some q ∧ q.1 = C)
    (h4 : z_has w (z_cw y)) (h5 : z_has w (.initialized y.1.cls)) (hwords : (st.map fun v => v.category).sum + y.2.2.1 ≤ 50)
    (k1 : ∀ v M', Q' (.inl v) M' → z_Ex w Y d Q (pc + 3) lv (v.toList ++ st) M') (k2 : ∀ k M', Q' (.inr k) M' → Q (.inr k) M') : z_Ex w Y d Q pc lv st0 M := by
  subst hst
  intro p e R s m args below meth c H locs cells slots al ae ne ls C hR hT hl ho T hTH X
  obtain ⟨hx, hb, hml, hret, hlocks, hown, hname, htab, hW, hF, hL⟩ := id C
  obtain ⟨hS, hae, hne, hcc, hss⟩ := id hT
  have hoas : ∀ v ∈ as, z_ok M.1 v := fun v hv => ho v (List.mem_append_left _ (List.mem_reverse.mpr hv))
  have host : ∀ v ∈ st, z_ok M.1 v := fun v hv => ho v (List.mem_append_right _ hv)
  have hrc' : ∀ C9, oc = some C9 → ∃ (i : Nat) (cell : Cell), as.head? = some (.ref i) ∧ T.heap[al i]? = some cell ∧ cell.vm.isStatics = false ∧ s.vm.findClass C9 = some cell.cls := by
    intro C9 h9
    obtain ⟨i, ci, fs, q, e1, e2, e3, e4, e5⟩ := hrc C9 h9
    have hi : i < M.1 := by
      have h8 : (Value.ref i) ∈ as := by
        cases as with
        | nil => cases e1
        | cons z zs => cases e1; exact List.mem_cons_self
      exact hoas _ h8
    obtain ⟨r, g1, cell, g2, g3, g4, -⟩ := hR.1 _ _ (z_at_obj hR e2 hi e3)
    have hr9 : r = q := Option.some.inj (g1.symm.trans e4)
    subst hr9
    obtain ⟨-, hfc, -⟩ := (z_K hw hW).1 ci _ e4
    refine ⟨i, cell, e1, by rw [hTH]; exact g2, by rw [g4]; rfl, ?_⟩
    rw [← e5, g3]
    exact hfc
  obtain ⟨vm₁, mk, ig, hdg, hW₁, hnamed, hstep⟩ := hsite ls al (st.map (z_v al)) X hx hb hown hW hrc'
  have X₁ := X.noted hW₁
  have hcat : ((st.map (z_v al)).map fun v => v.category).sum = (st.map fun v => v.category).sum := by
    rw [List.map_map]; congr 1; exact List.map_congr_left (fun v _ => z_v_cat v)
  have hWU : w.2.1.WarmedH (T.setVm vm₁).vm := State.WarmedH.trans hW hW₁
  obtain ⟨o, t, L, k, n, B, hE, XB, hBh, hBv, hout⟩ := z_back (W9 := (st.map fun v => v.category).sum) (Ls := locs) (c0 := cells) (s0 := slots) (a := (as.map (z_v al)).toArray) (E := fun st9 o t L k n => ∃ (out : z_O) (M' : z_M) (al' : Nat → Nat), Q' out M' ∧ z_Out w al' M'.1 out o t ∧ z_Rel w al' M' t.heap ∧ z_Pt w (z_room d' M) al M.1 al' M' t.heap L k n)
    (hcl al) (fun st9 o t h9 => by
      obtain ⟨out, M', al', L, k, n, h1, h2, h3, h4, h5, h6⟩ := h9
      exact ⟨L, k, n, h5, h6, out, M', al', h1, h2, h3, h4⟩)
    X₁ (g := F0 m pc ls (st.map (z_v al))) rfl (by rw [hml]; exact hl.1.1) hdg (by
      show 2 * 0 + _ ≤ _
      rw [hcat]; omega) (mk := mk) (X₁.named hnamed) (by show d' + 1 ≤ R.frames; omega) (by show _ + 64 * d' ≤ _; omega) (h4 _ _ hWU) (h5 _ _ hWU) (by show cells + M.2.2.1 ≤ _; exact hcc) (by show slots + M.2.2.2 ≤ _; exact hss)
    ⟨rfl, hWU, by show z_Rel w al M T.heap; rw [hTH]; exact hR, by show va_S (z_A w) w.2.1.heap T.heap []; rw [hTH]; exact ⟨hS.1, hS.2.1, fun _ h => by cases h⟩, hoas⟩
  obtain ⟨out, M', al', hq', ho', hR', hS', hae', hne', hcc', hss'⟩ := hE
  have hT' : z_Pt w R ae ne al' M' B.heap (locs ++ L) (cells + k) (slots + n) := by
    refine ⟨⟨by rw [hBh]; exact hS'.1, by rw [hBh]; exact hS'.2.1, fun z hz => (List.mem_append.mp hz).elim (hS.2.2 z) (hS'.2.2 z)⟩, fun i hi => (hae' i (Nat.lt_of_lt_of_le hi hne)).trans (hae i hi), Nat.le_trans hne hne', ?_, ?_⟩
    · have h9 : k + M'.2.2.1 ≤ M.2.2.1 := hcc'
      omega
    · have h9 : n + M'.2.2.2 ≤ M.2.2.2 := hss'
      omega
  have hRB : z_Rel w al' M' B.heap := by rw [hBh]; exact hR'
  have hstE : st.map (z_v al') = st.map (z_v al) := z_st_ext hae' host
  have hjoin : ((as.reverse ++ st).map (z_v al)) = (as.reverse).map (z_v al) ++ st.map (z_v al) := List.map_append
  rw [hjoin]
  rcases hout with ⟨v, rfl, hs⟩ | ⟨q, rfl, hs⟩
  · cases out with
    | inr k9 =>
      obtain ⟨_, _, h9, -⟩ := ho'
      cases h9
    | inl v9 =>
      obtain ⟨h9, hok9⟩ := ho'
      cases h9
      have k9 := k1 v9 M' hq' p e R s m args below meth c B.heap (locs ++ L) (cells + k) (slots + n) al' ae ne ls C hRB hT' (z_Lv_ext hne' hae' hl) (fun u hu => by
        rcases List.mem_append.mp hu with h | h
        · exact hok9 u (by cases v9 with
            | none => cases h
            | some z => rcases List.mem_cons.mp h with rfl | h'; rfl; cases h')
        · exact z_ok_mono hne' (host u h)) B rfl XB
      obtain ⟨t2, a1, b1⟩ := k9
      refine ⟨t2, hstep _ (fun acts => ?_), b1⟩
      rw [doInvoke_state]
      refine hs.trans ?_
      have e9 : ((v9.map (z_v al')).toList ++ st.map (z_v al)) = ((v9.toList ++ st).map (z_v al')) := by
        rw [List.map_append, hstE]
        cases v9 <;> rfl
      show Steps p.tables e below (B.setTop (F0 m (pc + 3) ls ((v9.map (z_v al')).toList ++ st.map (z_v al)))) t2
      rw [e9]
      exact a1
  · cases out with
    | inl v9 =>
      obtain ⟨h9, -⟩ := ho'
      cases h9
    | inr k9 =>
      obtain ⟨q9, ce, h9, hce, hcv, hcl9⟩ := ho'
      cases h9
      obtain ⟨st1, hrun, hend, hWt, hsm⟩ := XB.leaveThrown q (g := F0 m pc ls (st.map (z_v al))) rfl rfl rfl (fun z hz => by rw [htab, hnt] at hz; cases hz) hlocks
      refine ⟨_, (hstep _ (fun acts => by rw [doInvoke_state]; exact hs)).trans st1, .threw q, hrun, hend, .inr k9, M', al', locs ++ L, cells + k, slots + n, k2 k9 M' hq', ⟨q, ce, rfl, ?_, hcv, hcl9⟩, ?_, ?_, hWt, hsm⟩
      · show B.heap[q]? = some ce
        rw [hBh]; exact hce
      · show z_Rel w al' M' B.heap
        exact hRB
      · exact hT'
end ZC
