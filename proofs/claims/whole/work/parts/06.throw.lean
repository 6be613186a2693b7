section ZT
variable {w : z_W} {Y : z_Y} {d : Nat} {Q : z_O → z_M → Prop} {pc : Nat} {lv lv' : List (Nat × Value)} {st : List Value} {M : z_M} {n0 : Nat} {h : Nat → va_E} {nc ns : Nat}
/-- a word that holds wherever the run can be, the first heap's cells being as they were -/
def z_hasH (w : z_W) (c : Cond) : Prop := ∀ (A : Array Value) (U : State), w.2.1.WarmedH U.vm → (∀ q : Nat, q < w.2.1.heap.size → U.heap[q]? = w.2.1.heap[q]?) → c.before A U = true
theorem z_hasH_of {c : Cond} (h9 : z_has w c) : z_hasH w c := fun A U hW _ => h9 A U hW
/-- the same body, as if it began in the heap as it is now -/
theorem z_anew {p : Program} {l : Launch} {e : Env} {R : Room} {s : State} {m : MethodId} {args : Array Value} {below : List Frame} {meth : Method} {c : Code} {T : State} {locs : List Loc} {cells slots : Nat}
    (X : Stand p l e R s m args below meth c T locs cells slots) (a b : Nat) (hc : cells + a ≤ R.cells) (hs : slots + b ≤ R.slots) :
    Stand p l e { frames := R.frames, locals := R.locals, cells := a, slots := b } ((T.setVm s.vm).setFrames (.invoking m args :: below)) m args below meth c T [] 0 0 := by
  have htop : (T.setVm s.vm).topJava?.isSome := X.here.top
  obtain ⟨g₀, hg0⟩ := Option.isSome_iff_exists.mp htop
  obtain ⟨r, hr⟩ := State.topJava?_eq_some.mp hg0
  have hF : ((T.setVm s.vm).setFrames (.invoking m args :: below)).frames = .invoking m args :: below := State.frames_setFrames _ (State.cur_lt_of_top htop)
  have hlim : e.platform.stackLimits (T.setVm s.vm).me = e.platform.stackLimits s.me := X.limits
  have hbyt : (T.setVm s.vm).me.stackBytes = s.me.stackBytes := X.bytes
  have hroom : ((T.setVm s.vm).setFrames (.invoking m args :: below)).hasRoom e.platform { frames := R.frames, locals := R.locals, cells := a, slots := b } = true := by
    have hr0 := X.room
    have hU : ((T.setVm s.vm).setFrames (.invoking m args :: below)).localsInUse = s.localsInUse := by
      rw [State.localsInUse_invoking hF (meth := meth) (c := c) X.method X.code, State.localsInUse_invoking X.frames X.method X.code]
    have q1 := X.heapSize
    have q2 := X.used
    simp only [State.hasRoom, Bool.and_eq_true, decide_eq_true_eq] at hr0 ⊢
    obtain ⟨⟨⟨⟨h1, h2, h3, h4, h5, h6⟩, h7⟩, h8⟩, h9⟩ := hr0
    rw [X.frames, List.length_cons] at h2 h3
    simp only [hF, hU, List.length_cons, State.stackLimits_setFrames, State.stackBytes_setFrames, hlim, hbyt]
    have z1 : ((T.setVm s.vm).setFrames (.invoking m args :: below)).heap.size = T.heap.size := rfl
    have z2 : ((T.setVm s.vm).setFrames (.invoking m args :: below)).slotsUsed = T.slotsUsed := rfl
    rw [z1, z2]
    exact ⟨⟨⟨⟨h1, h2, h3, h4, h5, h6⟩, by omega⟩, by omega⟩, X.book⟩
  have hnil : (T.heap.toList.drop T.heap.size).map (fun z : Cell => z.slots.size) = [] := by
    rw [List.drop_eq_nil_of_le (Nat.le_of_eq Array.length_toList)]; rfl
  refine ⟨X.admits, X.cas, X.clock, hF, hroom, X.hears, X.method, X.code, X.here, X.tail, X.warmed, by rw [State.stackLimits_setFrames]; rfl, by rw [State.stackBytes_setFrames]; rfl, ?_, Nat.le_refl _, Nat.le_refl _, ?_, ?_, fun a9 c9 h9 => ⟨c9, h9, rfl, rfl, fun _ _ => rfl⟩⟩
  · obtain ⟨t, ht, -⟩ := State.frames_cons hr
    show T.setVm s.vm = { ((T.setVm s.vm).setFrames (.invoking m args :: below)).setFrames (T.setVm s.vm).frames with heap := T.heap, slotsUsed := T.slotsUsed }
    rw [State.setFrames_setFrames, State.setFrames_self ht]
    rfl
  · show T.slotsUsed = T.slotsUsed + ((T.heap.toList.drop T.heap.size).map (fun z : Cell => z.slots.size)).sum
    rw [hnil]; rfl
  · show ((T.heap.toList.drop T.heap.size).map (fun z : Cell => z.slots.size)).sum ≤ 0
    rw [hnil]; exact Nat.le_refl _
/-- what 'throw new E()' links -/
def z_thrF (w : z_W) (own : String) (ik ic k : Nat) (names : List String) : Prop :=
  Bundle.fit (z_exc k) = true ∧ (∀ n ∈ names, Bundle.fit n = true) ∧ z_has w (.classLink own ik (z_exc k)) ∧ z_has w (.initialized (z_exc k)) ∧ ∀ c ∈ Bundle.ownAtoms0 own ic (z_exc k) names, z_hasH w c
theorem z_throw {ik ic k : Nat} {names : List String} (hnt : Y.2.2.2.2 = []) (htr : w.1.stackTraces = false) (hf : z_thrF w Y.1.cls ik ic k names)
    (d0 : decode Y.2.1 pc = .ok (.new ik, 3)) (d3 : decode Y.2.1 (pc + 3) = .ok (.dup, 1)) (d4 : decode Y.2.1 (pc + 4) = .ok (.invokespecial ic, 3)) (d7 : decode Y.2.1 (pc + 7) = .ok (.athrow, 1))
    (hd : names.length + 5 ≤ d) (hst : (st.map fun v => v.category).sum ≤ 40) (hc1 : 1 ≤ nc) (hs1 : 6 ≤ ns) (hq : Q (.inr k) (n0, h, nc - 1, ns - 6)) : z_Ex w Y d Q pc lv st (n0, h, nc, ns) := by
  intro p e R s m args below meth c H locs cells slots al ae ne ls C hR hT hl ho T hTH X
  obtain ⟨hx, hb, hml, hret, hlocks, hown, hname, htab, hW, hF, hL⟩ := id C
  obtain ⟨hS, hae, hne, hcc, hss⟩ := id hT
  obtain ⟨f1, f2, f3, f4, f5⟩ := hf
  have htr' : e.platform.stackTraces = false := (show e.platform.stackTraces = w.1.stackTraces by rw [X.admits.platform]).trans htr
  have hcc9 : cells + nc ≤ R.cells := hcc
  have hss9 : slots + ns ≤ R.slots := hss
  have Z := z_anew X 1 6 (by omega) (by omega)
  generalize hs' : (T.setVm s.vm).setFrames (.invoking m args :: below) = s' at Z
  have hvm : s'.vm = s.vm := by rw [← hs']; rfl
  have hhp : s'.heap = H := by rw [← hs']; exact hTH
  have hW' : w.2.1.WarmedH s'.vm := by rw [hvm]; exact hW
  have hold : ∀ q : Nat, q < w.2.1.heap.size → s'.heap[q]? = w.2.1.heap[q]? := fun q hq9 => by rw [hhp]; exact hS.2.1 q hq9 (fun h9 => Nat.not_lt.mpr h9 hq9)
  have hat : ∀ c ∈ Bundle.ownAtoms0 Y.1.cls ic (z_exc k) names, c.before args s' = true := fun c hc => f5 c hc args s' hW' hold
  have hown' : s'.vm.findClass Y.1.cls = some m.cls := by rw [hvm]; exact hown
  have hins : (Cond.instantiable (z_exc k) 6).before args s' = true := hat _ (by simp [Bundle.ownAtoms0])
  obtain ⟨vm₁, cX, kX, hfX, hkX, -, -, X₁, st1⟩ := Z.newCold hx (own := Y.1.cls) (C := z_exc k) (index := ik) (n := 6) hown' (f3 _ _ hW') hins (f4 _ _ hW') (g := F0 m pc ls (st.map (z_v al))) rfl (by rw [hb]; exact d0) (Nat.le_refl _) (Nat.le_refl _)
  generalize hT1 : (T.setVm vm₁).pushCell { cls := cX, slots := kX.instanceTypes.map defaultValue, vm := .none } = T1 at X₁ st1
  have hcellA : T1.heap[T.heap.size]? = some (freshCell cX kX) := by rw [← hT1]; exact State.heap_pushCell_size _ _
  have d3' : decode c.code (pc + 3) = .ok (.dup, 1) := by rw [hb]; exact d3
  have hcat : ((st.map (z_v al)).map fun v => v.category).sum = (st.map fun v => v.category).sum := by
    rw [List.map_map]; congr 1; exact List.map_congr_left (fun v _ => z_v_cat v)
  have hc1' : (Value.ref T.heap.size).category = 1 := rfl
  obtain ⟨U, hsteps, hrun, hend, hWU, hsame, ce, hce, hO⟩ := X₁.ctorThrow0 hx htr' (own := Y.1.cls) (cls := z_exc k) (names := names) (ic := ic) hown' f1 f2 hat (fun z hz => by cases hz) hfX hkX hcellA (by rw [hhp, hTH]; exact Nat.le_refl _)
    (g := F0 m (pc + 4) ls (.ref T.heap.size :: .ref T.heap.size :: st.map (z_v al))) rfl (by rw [hml]; exact hl.1.1) rfl rfl (rest := st.map (z_v al)) rfl (by rw [hb]; exact d4) (by rw [hb]; exact d7) (fun z hz => by rw [htab, hnt] at hz; cases hz)
    (by show names.length + 3 < R.frames; omega) (by
      show 2 * 0 + _ + _ ≤ R.locals
      simp only [List.map_cons, List.sum_cons, hc1', hcat]
      omega) hlocks
  have hkept : ∀ q : Nat, q < H.size → U.heap[q]? = H[q]? := by
    intro q hq9
    rw [← hhp] at hq9 ⊢
    obtain ⟨c9, e1, e2, e3, e4⟩ := hsame.2.2.2.2.2 q _ (Array.getElem?_eq_getElem hq9)
    have hsl : c9.slots = (s'.heap[q]).slots := Array.ext_getElem? fun i => e4 i (fun hm => by cases hm)
    have h9 : c9 = s'.heap[q] := by rw [hsl] at e2; exact e2
    have e5 : U.heap[q]? = some c9 := e1
    rw [e5, h9, Array.getElem?_eq_getElem hq9]
  have hsz : H.size ≤ U.heap.size := by rw [← hhp]; exact hsame.2.1
  have hWs : s.WarmedH U.vm := State.WarmedH.trans (by rw [hvm]; exact State.WarmedH.refl s) hWU
  have hall : s.sameButNew ({ U with vm := s.vm } : State) locs (cells + 1) (slots + 6) := by
    subst hs'
    obtain ⟨e1, e2⟩ := hsame
    rw [State.setFrames_setFrames] at e1
    have h2 : (T.setVm s.vm).sameButNew ({ U with vm := s.vm } : State) [] (0 + 1) (0 + 6) := ⟨e1, e2⟩
    have h3 := X.same.trans h2
    rw [List.append_nil] at h3
    exact h3
  refine ⟨U, st1 _ ?_, .threw T.heap.size, hrun, hend, .inr k, (n0, h, nc - 1, ns - 6), al, locs, cells + 1, slots + 6, hq, ⟨T.heap.size, ce, rfl, hce, hO.vm, ?_⟩, ?_, ?_, hWs, hall⟩
  · show Steps p.tables e below (T1.setTop (F0 m (pc + 3) ls (.ref T.heap.size :: st.map (z_v al)))) U
    jvm_step X₁.here [X₁.here.top, hx, d3', Value.category]
    exact hsteps
  · have h9 := hO.cls
    rw [hvm, hW.alike.findClass] at h9
    exact h9
  · exact ⟨hR.1.kept (fun k9 q hq9 => hkept _ ((hR.1 k9 q hq9).lt)), hR.2.1, hR.2.2⟩
  · refine ⟨⟨Nat.le_trans hS.1 hsz, fun q h1 h2 => (hkept q (Nat.lt_of_lt_of_le h1 hS.1)).trans (hS.2.1 q h1 h2), hS.2.2⟩, hae, hne, ?_, ?_⟩
    · show cells + 1 + (nc - 1) ≤ R.cells
      omega
    · show slots + 6 + (ns - 6) ≤ R.slots
      omega
end ZT
