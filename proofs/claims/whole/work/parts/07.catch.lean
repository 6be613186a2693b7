section ZX
/-- the search through a table, from tables that may be cold: where it ends, and with which tables -/
theorem z_seek {e : Env} {s0 : State} {f : JFrame} {q : Addr} {cell : Cell} (hv : cell.vm = .none) (hk0 : ∃ k, s0.vm.classes[cell.cls]? = some k) (z : ExceptionTableEntry) (suf : List ExceptionTableEntry) (hz : covers z f.pc = true) (h0 : z.catchType ≠ 0)
    {cz : ClassId} (hlz : s0.vm.ClassLinks e.platform f.method.cls z.catchType cz) (hfit : s0.vm.assignable cell.cls cz = true) :
    ∀ (pre : List ExceptionTableEntry) (S : State), s0.WarmedH S.vm → S.heap[q]? = some cell → (∀ y ∈ pre, covers y f.pc = true ∧ y.catchType ≠ 0 ∧ ∃ cy, s0.vm.ClassLinks e.platform f.method.cls y.catchType cy ∧ s0.vm.assignable cell.cls cy = false) →
      ∃ vm', s0.WarmedH vm' ∧ ∀ (Q : Handler → Pre) (E : CtlPost) (d : Bool) (acts : List Action), wp (findHandler.go f q (pre ++ z :: suf)) Q E e d acts S ↔ Q (.found z.handlerPc) d acts (S.setVm vm') := by
  have hobj : ∀ k, cell.vm ≠ .statics k := fun k h => by rw [hv] at h; cases h
  obtain ⟨k0, hk0⟩ := hk0
  -- one row of the table: its class is looked up, and noted
  have row : ∀ (y : ExceptionTableEntry) (cy : ClassId) (S : State), covers y f.pc = true → y.catchType ≠ 0 → s0.vm.ClassLinks e.platform f.method.cls y.catchType cy → s0.WarmedH S.vm → S.heap[q]? = some cell →
      s0.WarmedH (S.vm.noted f.method.cls y.catchType (.cls cy)) ∧ ∀ (t : List ExceptionTableEntry) (Q : Handler → Pre) (E : CtlPost) (d : Bool) (acts : List Action),
        (wp (findHandler.go f q (y :: t)) Q E e d acts S ↔ if s0.vm.assignable cell.cls cy = true then Q (.found y.handlerPc) d acts (S.setVm (S.vm.noted f.method.cls y.catchType (.cls cy))) else wp (findHandler.go f q t) Q E e d acts (S.setVm (S.vm.noted f.method.cls y.catchType (.cls cy)))) := by
    intro y cy S hy hy0 hl hW hcell
    obtain ⟨dk, _, _, kt, hd, _, _, _, _, hkt, _, hopen⟩ := hl.here
    refine ⟨hW.noted hd hopen (State.rightAt_cls hl), fun t Q E d acts => ?_⟩
    have hlS := hW.classLinks hl
    simp only [covers] at hy
    obtain ⟨ha, ht⟩ := (resolveClass_links e.toSetting hlS).op (op := VmOp.resolveClass f.method.cls y.catchType) rfl
    have hal : S.vm.Alike (S.vm.noted f.method.cls y.catchType (.cls cy)) := (Vm.Alike.refl S.vm).noted _ _ _
    obtain ⟨k1, hk1, -⟩ := (hW.alike.trans hal).2.2 _ _ hk0
    obtain ⟨k2, hk2, -⟩ := (hW.alike.trans hal).2.2 _ _ hkt
    have has : (S.vm.noted f.method.cls y.catchType (.cls cy)).assignable cell.cls cy = s0.vm.assignable cell.cls cy := by rw [(hW.alike.trans hal).assignable]
    by_cases hc : s0.vm.assignable cell.cls cy = true
    · rw [if_pos hc]
      rw [hc] at has
      simp [findHandler.go, hy, hy0, ha, ht, hcell, hobj, hk1, hk2, has, VmOp.dirties, VmOp.acts]
    · rw [if_neg hc]
      have hc' : s0.vm.assignable cell.cls cy = false := by simpa using hc
      rw [hc'] at has
      simp [findHandler.go, hy, hy0, ha, ht, hcell, hobj, hk1, hk2, has, VmOp.dirties, VmOp.acts]
  intro pre
  induction pre with
  | nil =>
    intro S hW hcell _
    obtain ⟨h1, h2⟩ := row z cz S hz h0 hlz hW hcell
    refine ⟨_, h1, fun Q E d acts => ?_⟩
    rw [List.nil_append, h2, if_pos hfit]
  | cons y ys ih =>
    intro S hW hcell hp
    obtain ⟨g1, g2, cy, g3, g4⟩ := hp y List.mem_cons_self
    obtain ⟨h1, h2⟩ := row y cy S g1 g2 g3 hW hcell
    obtain ⟨vm', h3, h4⟩ := ih (S.setVm (S.vm.noted f.method.cls y.catchType (.cls cy))) h1 hcell (fun u hu => hp u (List.mem_cons_of_mem _ hu))
    refine ⟨vm', h3, fun Q E d acts => ?_⟩
    rw [List.cons_append, h2, if_neg (by rw [g4]; decide)]
    exact h4 Q E d acts
theorem z_caught {p : Program} {l : Launch} {e : Env} {R : Room} {s : State} {m : MethodId} {args : Array Value} {below : List Frame} {meth : Method} {c : Code} {T : State} {locs : List Loc} {cells slots : Nat}
    (X : Stand p l e R s m args below meth c T locs cells slots) (q : Addr) {g : JFrame} (hg : g.method = m) {cell : Cell} (hcell : T.heap[q]? = some cell) (hv : cell.vm = .none) (hk0 : ∃ k, s.vm.classes[cell.cls]? = some k)
    (pre : List ExceptionTableEntry) (z : ExceptionTableEntry) (suf : List ExceptionTableEntry) (hsplit : c.exceptionTable.toList = pre ++ z :: suf) (hz : covers z g.pc = true) (h0 : z.catchType ≠ 0)
    {cz : ClassId} (hlz : s.vm.ClassLinks e.platform m.cls z.catchType cz) (hfit : s.vm.assignable cell.cls cz = true)
    (hp : ∀ y ∈ pre, covers y g.pc = true ∧ y.catchType ≠ 0 ∧ ∃ cy, s.vm.ClassLinks e.platform m.cls y.catchType cy ∧ s.vm.assignable cell.cls cy = false) :
    ∃ vm', s.WarmedH vm' ∧ ∀ target, Steps p.tables e below ((T.setVm vm').setTop { g with pc := z.handlerPc, stack := [.ref q] }) target → Steps p.tables e below ((T.setTop g).pushFrame (.throwing q)) target := by
  subst hg
  obtain ⟨vm', hW', hfind⟩ := z_seek (e := e) (s0 := s) (f := g) (q := q) hv hk0 z suf hz h0 hlz hfit pre ((T.setTop g).pushFrame (.throwing q)) X.warmed hcell hp
  have hm : ((T.setTop g).pushFrame (.throwing q)).vm.method? g.method = some meth := X.method'
  have hF : ∀ (Q : Handler → Pre) (E : CtlPost) (d : Bool) (acts : List Action), wp (findHandler g q) Q E e d acts ((T.setTop g).pushFrame (.throwing q)) ↔ Q (.found z.handlerPc) d acts (((T.setTop g).pushFrame (.throwing q)).setVm vm') := fun Q E d acts => by
    rw [W.findHandler_eq hm X.code, hsplit]
    exact hfind Q E d acts
  refine ⟨vm', hW', fun target hrest => ?_⟩
  obtain ⟨hgo, hwi⟩ := X.here.throwing q
  refine Steps.head hgo hwi ?_
  have hstep : (stepThrowing e ((T.setTop g).pushFrame (.throwing q)) q (.java g :: T.frames.tail)).Is ((((T.setTop g).pushFrame (.throwing q)).setVm vm').setFrames (.java { g with pc := z.handlerPc, stack := [.ref q] } :: T.frames.tail)) [] := by
    simp only [stepThrowing, searchFrame, vmDo]
    generalize hr : Sem.go _ e false [] ((T.setTop g).pushFrame (.throwing q)) = res
    obtain ⟨as, rfl, ha⟩ := Sem.eq_ok_of hr (a := Handler.found z.handlerPc) (s' := ((T.setTop g).pushFrame (.throwing q)).setVm vm') (acts' := []) (by simp [hF _ _ _ _])
    exact ⟨rfl, ha⟩
  rw [stepThread_throwing (frames_entered X.here.top _), hstep.1]
  obtain ⟨g₀, hg0⟩ := Option.isSome_iff_exists.mp X.here.top
  obtain ⟨r, hr⟩ := State.topJava?_eq_some.mp hg0
  have hr' : (T.setVm vm').frames = .java g₀ :: r := hr
  rw [State.setTop_of_frames _ hr'] at hrest
  have e1 : ∀ (u : State) (F G : List Frame), ((u.setFrames F).setVm vm').setFrames G = (u.setVm vm').setFrames G := fun u F G => by
    have h1 : (u.setFrames F).setVm vm' = (u.setVm vm').setFrames F := rfl
    rw [h1, State.setFrames_setFrames]
  rw [hr, List.tail_cons, State.pushFrame, e1, State.setTop_of_frames _ hr, e1]
  exact hrest
end ZX
