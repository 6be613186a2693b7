section ZH
variable {w : z_W} {Y : z_Y} {d : Nat} {Q : z_O → z_M → Prop} {pc : Nat} {lv lv' : List (Nat × Value)} {st : List Value} {M : z_M} {n0 : Nat} {h : Nat → va_E} {nc ns : Nat}
/-- the world is good: what the tables say of our classes and of the arrays' classes -/
def z_Wok (w : z_W) : Prop := va_K w.2.2.1 vwCl (z_tys w) w.2.1
/-- entry idx of class own is field k of class ci -/
def z_fld (w : z_W) (own : String) (idx ci k : Nat) : Prop := ∃ (C : String) (T : u_T) (N : Nat), vwCl[ci]? = some (C, T, N) ∧ k < N ∧ (∀ c ∈ u_ws C T N, z_has w c) ∧
  (z_has w (.fieldLink own idx (T k).1 (T k).2.1 (T k).2.2.1) ∨ ∃ host, z_has w (.fieldLinkNest own idx (T k).1 (T k).2.1 (T k).2.2.1 host))
/-- .. of type ty; fin: final -/
def z_fldP (w : z_W) (own : String) (idx ci k : Nat) (ty : FieldType) (fin : Bool) : Prop := ∃ (C : String) (T : u_T) (N : Nat) (ty0 : Nat → FieldType), vwCl[ci]? = some (C, T, N) ∧ k < N ∧ (∀ c ∈ u_ws C T N, z_has w c) ∧
  (z_has w (.fieldLink own idx (T k).1 (T k).2.1 (T k).2.2.1) ∨ (fin = false ∧ ∃ host, z_has w (.fieldLinkNest own idx (T k).1 (T k).2.1 (T k).2.2.1 host))) ∧
  (∀ j, j < N → parseFieldDescriptor (T j).2.2.1 = some (ty0 j)) ∧ (∀ a, a < N → ∀ b, b < N → a ≠ b → (T a).2.1 ≠ (T b).2.1) ∧ parseFieldDescriptor (T k).2.2.1 = some ty ∧ (T k).2.2.2 = fin ∧ (fin = true → (T k).1 = own)
theorem z_at_obj {al : Nat → Nat} {H : Heap} {i ci : Nat} {fs : List Value} (hR : z_Rel w al M H) (h2 : 2 ≤ i) (hi : i < M.1) (hc : M.2.1 i = .inr (ci, fs)) : (z_ws w.2.2.2 al M)[i - 2]? = some (al i, .inr (ci, fs.map (z_v al))) := by
  rw [z_ws_get h2 hi, hc]; rfl
theorem z_at_arr {al : Nat → Nat} {H : Heap} {i t : Nat} {x : vp_A} (hR : z_Rel w al M H) (h2 : 2 ≤ i) (hi : i < M.1) (hc : M.2.1 i = .inl (t, x)) : (z_ws w.2.2.2 al M)[i - 2]? = some (al i, .inl (w.2.2.2 t, x)) := by
  rw [z_ws_get h2 hi, hc]; rfl
theorem z_obj_ok {al : Nat → Nat} {H : Heap} {i ci : Nat} {fs : List Value} (hR : z_Rel w al M H) (h2 : 2 ≤ i) (hi : i < M.1) (hc : M.2.1 i = .inr (ci, fs)) : ∀ v ∈ fs, z_ok M.1 v := by
  have h := hR.2.2.1 i h2 hi
  rw [hc] at h
  exact h
theorem z_get {idx i ci k : Nat} {fs : List Value} {v : Value} (hw : z_Wok w) (dg : decode Y.2.1 pc = .ok (.getfield idx, 3)) (hf : z_fld w Y.1.cls idx ci k) (h2 : 2 ≤ i) (hc : h i = .inr (ci, fs)) (hv : fs[k]? = some v)
    (kk : z_Ex w Y d Q (pc + 3) lv (v :: st) (n0, h, nc, ns)) : z_Ex w Y d Q pc lv (.ref i :: st) (n0, h, nc, ns) := by
  intro p e R s m args below meth c H locs cells slots al ae ne ls C hR hT hl ho
  obtain ⟨CC, TT, N, e1, e2, e3, e5⟩ := hf
  have hi : i < n0 := z_oh ho
  have hW := C.2.2.2.2.2.2.2.2.1
  have he := z_at_obj hR h2 hi hc
  have hv' : (fs.map (z_v al))[k]? = some (z_v al v) := by rw [List.getElem?_map, hv]; rfl
  have kk' := kk p e R s m args below meth c H locs cells slots al ae ne ls C hR hT hl (z_oc (z_obj_ok hR h2 hi hc v (List.mem_of_getElem? hv)) (z_ot ho))
  rcases e5 with e5 | ⟨host, e5⟩
  · exact va_get C.1 C.2.1 (fun c h => e3 c h _ _ hW) (fun _ h => h) C.2.2.2.2.2.1 (z_K hw hW) hR.1 (i - 2) he e1 k e2 (e5 _ _ hW) (fun _ h => h) hv' dg kk'
  · exact va_getN C.1 C.2.1 (fun c h => e3 c h _ _ hW) (fun _ h => h) C.2.2.2.2.2.1 (z_K hw hW) hR.1 (i - 2) he e1 k e2 (e5 _ _ hW) (fun _ h => h) hv' dg kk'
theorem z_put {idx i ci k : Nat} {fs : List Value} {v : Value} {ty : FieldType} {fin : Bool} (hw : z_Wok w) (dg : decode Y.2.1 pc = .ok (.putfield idx, 3)) (hf : z_fldP w Y.1.cls idx ci k ty fin) (hfin : fin = true → Y.1.name = "<init>") (h2 : 2 ≤ i) (hc : h i = .inr (ci, fs)) (hk : k < fs.length)
    (hn : ∀ al : Nat → Nat, narrow ty (z_v al v) = z_v al v ∧ fits ty (z_v al v) = true) (kk : z_Ex w Y d Q (pc + 3) lv st (n0, va_up h i (.inr (ci, fs.set k v)), nc, ns)) : z_Ex w Y d Q pc lv (v :: .ref i :: st) (n0, h, nc, ns) := by
  intro p e R s m args below meth c H locs cells slots al ae ne ls C hR hT hl ho
  obtain ⟨CC, TT, N, ty0, e1, e2, e3, e5, e6, e7, e8, e9, e10⟩ := hf
  have hi : i < n0 := z_oh (z_ot ho)
  have hW := C.2.2.2.2.2.2.2.2.1
  have he := z_at_obj hR h2 hi hc
  have hset : (Sum.inr (ci, (fs.map (z_v al)).set k (z_v al v)) : va_E) = z_E w.2.2.2 al (.inr (ci, fs.set k v)) := by
    show _ = (Sum.inr (ci, (fs.set k v).map (z_v al)) : va_E)
    rw [List.map_set]
  have hok : z_okE n0 (.inr (ci, fs.set k v)) := fun u hu => by
    rcases List.mem_or_eq_of_mem_set hu with h | h
    · exact z_obj_ok hR h2 hi hc u h
    · rw [h]; exact z_oh ho
  have kk' : ∀ (H1 : Heap) (locs1 : List Loc), va_P w.2.2.1 vwCl ((z_ws w.2.2.2 al (n0, h, nc, ns)).set (i - 2) (al i, .inr (ci, (fs.map (z_v al)).set k (z_v al v)))) H1 → va_D (z_A w) ((z_ws w.2.2.2 al (n0, h, nc, ns)).set (i - 2) (al i, .inr (ci, (fs.map (z_v al)).set k (z_v al v)))) → va_S (z_A w) w.2.1.heap H1 locs1 →
      W p w.1 e R s m args below meth c H1 locs1 cells slots (z_End w below s R ae ne Q) (F0 m (pc + 3) ls (st.map (z_v al))) := by
    intro H1 locs1 hP hD hS
    rw [hset] at hP hD
    exact kk p e R s m args below meth c H1 locs1 cells slots al ae ne ls C (hR.set h2 hi hok hP hD) ⟨hS, hT.2⟩ hl (z_ot (z_ot ho))
  cases fin with
  | false =>
    rcases e5 with e5 | ⟨-, host, e5⟩
    · exact va_put C.1 C.2.1 (fun c h => e3 c h _ _ hW) (fun _ h => h) ty0 e6 e7 C.2.2.2.2.2.1 (z_K hw hW) hR.1 hR.2.1 hT.1 (i - 2) he e1 k e2 (e5 _ _ hW) (fun _ h => h) e9 e8 (hn al).1 (hn al).2 (by rw [List.length_map]; exact hk) dg kk'
    · exact va_putN C.1 C.2.1 (fun c h => e3 c h _ _ hW) (fun _ h => h) ty0 e6 e7 C.2.2.2.2.2.1 (z_K hw hW) hR.1 hR.2.1 hT.1 (i - 2) he e1 k e2 (e5 _ _ hW) (fun _ h => h) e9 e8 (hn al).1 (hn al).2 (by rw [List.length_map]; exact hk) dg kk'
  | true =>
    rcases e5 with e5 | ⟨h9, -⟩
    · exact va_putF C.1 C.2.1 (fun c h => e3 c h _ _ hW) (fun _ h => h) ty0 e6 e7 C.2.2.2.2.2.1 (z_K hw hW) hR.1 hR.2.1 hT.1 (i - 2) he e1 k e2 (e5 _ _ hW) (fun _ h => h) e9 (C.2.2.2.2.2.2.1.trans (hfin rfl)) (e10 rfl) e8 (hn al).1 (hn al).2 (by rw [List.length_map]; exact hk) dg kk'
    · cases h9
theorem z_iald {i n : Nat} {f : Nat → Int32} {j : Int32} (hw : z_Wok w) (dg : decode Y.2.1 pc = .ok (.iaload, 1)) (h2 : 2 ≤ i) (hc : h i = .inl (0, n, .inl f)) (hj : vp_in j n)
    (kk : z_Ex w Y d Q (pc + 1) lv (.int (f j.toNatClampNeg) :: st) (n0, h, nc, ns)) : z_Ex w Y d Q pc lv (.int j :: .ref i :: st) (n0, h, nc, ns) := by
  intro p e R s m args below meth c H locs cells slots al ae ne ls C hR hT hl ho
  have hi : i < n0 := z_oh (z_ot ho)
  have hW := C.2.2.2.2.2.2.2.2.1
  exact va_iald C.1 C.2.1 (z_K hw hW) hR.1 (i - 2) 0 (z_at_arr hR h2 hi hc) rfl hj dg (kk p e R s m args below meth c H locs cells slots al ae ne ls C hR hT hl (z_oc trivial (z_ot (z_ot ho))))
theorem z_lald {i n : Nat} {f : Nat → Int64} {j : Int32} (hw : z_Wok w) (dg : decode Y.2.1 pc = .ok (.laload, 1)) (h2 : 2 ≤ i) (hc : h i = .inl (1, n, .inr (.inl f))) (hj : vp_in j n)
    (kk : z_Ex w Y d Q (pc + 1) lv (.long (f j.toNatClampNeg) :: st) (n0, h, nc, ns)) : z_Ex w Y d Q pc lv (.int j :: .ref i :: st) (n0, h, nc, ns) := by
  intro p e R s m args below meth c H locs cells slots al ae ne ls C hR hT hl ho
  have hi : i < n0 := z_oh (z_ot ho)
  have hW := C.2.2.2.2.2.2.2.2.1
  exact va_lald C.1 C.2.1 (z_K hw hW) hR.1 (i - 2) 1 (z_at_arr hR h2 hi hc) rfl hj dg (kk p e R s m args below meth c H locs cells slots al ae ne ls C hR hT hl (z_oc trivial (z_ot (z_ot ho))))
theorem z_zald {i n : Nat} {f : Nat → Int32} {j : Int32} (hw : z_Wok w) (dg : decode Y.2.1 pc = .ok (.baload, 1)) (h2 : 2 ≤ i) (hc : h i = .inl (2, n, .inl f)) (hj : vp_in j n)
    (kk : z_Ex w Y d Q (pc + 1) lv (.int (f j.toNatClampNeg) :: st) (n0, h, nc, ns)) : z_Ex w Y d Q pc lv (.int j :: .ref i :: st) (n0, h, nc, ns) := by
  intro p e R s m args below meth c H locs cells slots al ae ne ls C hR hT hl ho
  have hi : i < n0 := z_oh (z_ot ho)
  have hW := C.2.2.2.2.2.2.2.2.1
  exact va_zald C.1 C.2.1 (z_K hw hW) hR.1 (i - 2) 2 (z_at_arr hR h2 hi hc) rfl hj dg (kk p e R s m args below meth c H locs cells slots al ae ne ls C hR hT hl (z_oc trivial (z_ot (z_ot ho))))
theorem z_iast {i n : Nat} {f : Nat → Int32} {j x : Int32} (hw : z_Wok w) (dg : decode Y.2.1 pc = .ok (.iastore, 1)) (h2 : 2 ≤ i) (hc : h i = .inl (0, n, .inl f)) (hj : vp_in j n)
    (kk : z_Ex w Y d Q (pc + 1) lv st (n0, va_up h i (.inl (0, n, .inl (upd f j.toNatClampNeg x))), nc, ns)) : z_Ex w Y d Q pc lv (.int x :: .int j :: .ref i :: st) (n0, h, nc, ns) := by
  intro p e R s m args below meth c H locs cells slots al ae ne ls C hR hT hl ho
  have hi : i < n0 := z_oh (z_ot (z_ot ho))
  have hW := C.2.2.2.2.2.2.2.2.1
  exact va_iast C.1 C.2.1 (z_K hw hW) hR.1 hR.2.1 hT.1 (i - 2) 0 (z_at_arr hR h2 hi hc) rfl hj dg (fun H1 locs1 hP hD hS =>
    kk p e R s m args below meth c H1 locs1 cells slots al ae ne ls C (hR.set (c := .inl (0, n, .inl (upd f j.toNatClampNeg x))) h2 hi trivial hP hD) ⟨hS, hT.2⟩ hl (z_ot (z_ot (z_ot ho))))
theorem z_last {i n : Nat} {f : Nat → Int64} {j : Int32} {x : Int64} (hw : z_Wok w) (dg : decode Y.2.1 pc = .ok (.lastore, 1)) (h2 : 2 ≤ i) (hc : h i = .inl (1, n, .inr (.inl f))) (hj : vp_in j n)
    (kk : z_Ex w Y d Q (pc + 1) lv st (n0, va_up h i (.inl (1, n, .inr (.inl (vp_updL f j.toNatClampNeg x)))), nc, ns)) : z_Ex w Y d Q pc lv (.long x :: .int j :: .ref i :: st) (n0, h, nc, ns) := by
  intro p e R s m args below meth c H locs cells slots al ae ne ls C hR hT hl ho
  have hi : i < n0 := z_oh (z_ot (z_ot ho))
  have hW := C.2.2.2.2.2.2.2.2.1
  exact va_last C.1 C.2.1 (z_K hw hW) hR.1 hR.2.1 hT.1 (i - 2) 1 (z_at_arr hR h2 hi hc) rfl hj dg (fun H1 locs1 hP hD hS =>
    kk p e R s m args below meth c H1 locs1 cells slots al ae ne ls C (hR.set (c := .inl (1, n, .inr (.inl (vp_updL f j.toNatClampNeg x)))) h2 hi trivial hP hD) ⟨hS, hT.2⟩ hl (z_ot (z_ot (z_ot ho))))
theorem z_zast {i n : Nat} {f : Nat → Int32} {j x : Int32} (hw : z_Wok w) (dg : decode Y.2.1 pc = .ok (.bastore, 1)) (h2 : 2 ≤ i) (hc : h i = .inl (2, n, .inl f)) (hj : vp_in j n)
    (kk : z_Ex w Y d Q (pc + 1) lv st (n0, va_up h i (.inl (2, n, .inl (upd f j.toNatClampNeg (vp_nar .boolean x)))), nc, ns)) : z_Ex w Y d Q pc lv (.int x :: .int j :: .ref i :: st) (n0, h, nc, ns) := by
  intro p e R s m args below meth c H locs cells slots al ae ne ls C hR hT hl ho
  have hi : i < n0 := z_oh (z_ot (z_ot ho))
  have hW := C.2.2.2.2.2.2.2.2.1
  exact va_zast C.1 C.2.1 (z_K hw hW) hR.1 hR.2.1 hT.1 (i - 2) 2 (z_at_arr hR h2 hi hc) rfl hj dg (fun H1 locs1 hP hD hS =>
    kk p e R s m args below meth c H1 locs1 cells slots al ae ne ls C (hR.set (c := .inl (2, n, .inl (upd f j.toNatClampNeg (vp_nar .boolean x)))) h2 hi trivial hP hD) ⟨hS, hT.2⟩ hl (z_ot (z_ot (z_ot ho))))
theorem z_alen {i t : Nat} {x : vp_A} (hw : z_Wok w) (dg : decode Y.2.1 pc = .ok (.arraylength, 1)) (h2 : 2 ≤ i) (hc : h i = .inl (t, x)) (ht : t < 3)
    (kk : z_Ex w Y d Q (pc + 1) lv (.int (Int32.ofNat x.1) :: st) (n0, h, nc, ns)) : z_Ex w Y d Q pc lv (.ref i :: st) (n0, h, nc, ns) := by
  intro p e R s m args below meth c H locs cells slots al ae ne ls C hR hT hl ho
  have hi : i < n0 := z_oh ho
  have hW := C.2.2.2.2.2.2.2.2.1
  obtain ⟨ty, hty⟩ : ∃ ty, (z_tys w)[t]? = some (w.2.2.2 t, ty) := by
    rcases (show t = 0 ∨ t = 1 ∨ t = 2 by omega) with rfl | rfl | rfl <;> exact ⟨_, rfl⟩
  exact va_alen C.1 C.2.1 (z_K hw hW) hR.1 (i - 2) t (z_at_arr hR h2 hi hc) hty rfl dg (kk p e R s m args below meth c H locs cells slots al ae ne ls C hR hT hl (z_oc trivial (z_ot ho)))
/-- the script, the static table: read only -/
theorem z_ro {al : Nat → Nat} {H : Heap} {locs : List Loc} {s : State} {i n : Nat} {f : Nat → Int32} (hR : z_Rel w al M H) (hS : va_S (z_A w) w.2.1.heap H locs) (hW : w.2.1.WarmedH s.vm) (h2 : i < 2) (hc : M.2.1 i = .inl (0, n, .inl f)) :
    ∃ scr : Cell, H[al i]? = some scr ∧ s.isArrayOf scr .int ∧ scr.vm ≠ .unknown ∧ scr.slots.size = n ∧ ∀ j : Nat, j < n → scr.slots[j]? = some (.int (f j)) := by
  obtain ⟨L, g, e1, ⟨scr, h1, h3, h4, h5, h6⟩, e3, -⟩ := hR.2.2.2.1 i h2
  have e9 := e1.symm.trans hc
  cases e9
  refine ⟨scr, ?_, State.isArrayOf_alike hW.alike h3, h4, h5, h6⟩
  rw [hS.2.1 _ e3 (fun h => Nat.not_lt.mpr h e3)]
  exact h1
theorem z_sld {i n : Nat} {f : Nat → Int32} {j : Int32} (dg : decode Y.2.1 pc = .ok (.iaload, 1)) (h2 : i < 2) (hc : h i = .inl (0, n, .inl f)) (hj : vp_in j n)
    (kk : z_Ex w Y d Q (pc + 1) lv (.int (f j.toNatClampNeg) :: st) (n0, h, nc, ns)) : z_Ex w Y d Q pc lv (.int j :: .ref i :: st) (n0, h, nc, ns) := by
  intro p e R s m args below meth c H locs cells slots al ae ne ls C hR hT hl ho
  have hW := C.2.2.2.2.2.2.2.2.1
  obtain ⟨scr, h1, h3, h4, h5, h6⟩ := z_ro (s := s) hR hT.1 hW h2 hc
  have hlt : j.toNatClampNeg < n := by
    unfold vp_in at hj
    omega
  exact W.iald C.1 C.2.1 h1 h3 h4 (by rw [h5]; exact hj) (h6 _ hlt) (g := F0 m pc ls (.int j :: .ref (al i) :: st.map (z_v al))) rfl rfl dg (kk p e R s m args below meth c H locs cells slots al ae ne ls C hR hT hl (z_oc trivial (z_ot (z_ot ho))))
theorem z_slen {i n : Nat} {f : Nat → Int32} (dg : decode Y.2.1 pc = .ok (.arraylength, 1)) (h2 : i < 2) (hc : h i = .inl (0, n, .inl f))
    (kk : z_Ex w Y d Q (pc + 1) lv (.int (Int32.ofNat n) :: st) (n0, h, nc, ns)) : z_Ex w Y d Q pc lv (.ref i :: st) (n0, h, nc, ns) := by
  intro p e R s m args below meth c H locs cells slots al ae ne ls C hR hT hl ho
  have hW := C.2.2.2.2.2.2.2.2.1
  obtain ⟨scr, h1, h3, h4, h5, h6⟩ := z_ro (s := s) hR hT.1 hW h2 hc
  exact W.alen C.1 C.2.1 h1 h3 (n := Int32.ofNat n) (by rw [h5]) (g := F0 m pc ls (.ref (al i) :: st.map (z_v al))) rfl rfl dg (kk p e R s m args below meth c H locs cells slots al ae ne ls C hR hT hl (z_oc trivial (z_ot ho)))
/-- a frame goes on behind a new cell -/
theorem z_newa {aty : ArrayType} {t N : Nat} {ty : FieldType} {n : Int32} {a0 : vp_A} (hw : z_Wok w) (dg : decode Y.2.1 pc = .ok (.newarray aty, 2)) (hty : newarray.typeOf aty = ty) (ht : (z_tys w)[t]? = some (w.2.2.2 t, ty))
    (hra : ∀ (U : State) (cA : ClassId), va_RA U cA ty → U.vm.findClass ("[" ++ ty.toString) = some cA) (harr : z_has w (.arrayClass ty)) (ha : ∀ cA : ClassId, vp_cell cA a0 = arrV cA N (fun _ => defaultValue ty)) (hn : ¬ n < 0) (hN : n.toNatClampNeg = N)
    (hb : N * componentBytes ty ≤ 536870912) (hc1 : 1 ≤ nc) (hs1 : N ≤ ns)
    (kk : z_Ex w Y d Q (pc + 2) lv (.ref n0 :: st) (n0 + 1, va_up h n0 (.inl (t, a0)), nc - 1, ns - N)) : z_Ex w Y d Q pc lv (.int n :: st) (n0, h, nc, ns) := by
  intro p e R s m args below meth c H locs cells slots al ae ne ls C hR hT hl ho
  have hW := C.2.2.2.2.2.2.2.2.1
  have hK := z_K hw hW
  obtain ⟨hS, h3, h4, h5, h6⟩ := hT
  have h4 : ne ≤ n0 := h4
  have h5 : cells + nc ≤ R.cells := h5
  have h6 : slots + ns ≤ R.slots := h6
  have hz : (va_up al n0 · n0) = fun q => q := funext fun q => by simp [va_up]
  refine va_newa C.1 C.2.1 (by rw [hty]; exact harr _ _ hW) hty hK hR.1 hR.2.1 hS (fun q h => h) ha hn hN hb (by omega) (by omega) dg (fun q cA H1 hK1 hP hD hS1 => ?_)
  have hcA : cA = w.2.2.2 t := by
    have g1 := hra _ _ ((hK1.2 3 (cA, ty) (by simp [z_tys])).2)
    have g2 := hra _ _ ((hK.2 t _ ht).2)
    exact Option.some.inj (g1.symm.trans g2)
  subst hcA
  have hext : ∀ i, i < n0 → va_up al n0 q i = al i := z_up_old
  have k9 := kk p e R s m args below meth c H1 locs (cells + 1) (slots + N) (va_up al n0 q) ae ne ls C (hR.push (c := .inl (t, a0)) trivial hP hD)
    ⟨hS1, fun i hi => (hext i (Nat.lt_of_lt_of_le hi h4)).trans (h3 i hi), Nat.le_succ_of_le h4, by show cells + 1 + (nc - 1) ≤ _; omega, by show slots + N + (ns - N) ≤ _; omega⟩
    (z_Lv_ext (Nat.le_succ _) hext hl) (z_oc (Nat.lt_succ_self _) (fun v hv => z_ok_mono (Nat.le_succ _) (z_ot ho v hv)))
  have e1 : (Value.ref n0 :: st).map (z_v (va_up al n0 q)) = .ref q :: st.map (z_v al) := by
    rw [List.map_cons, z_st_ext hext (z_ot ho)]
    simp [z_v, va_up]
  rw [e1] at k9
  exact k9
def z_newF (w : z_W) (own : String) (idx ci N : Nat) (fs : List Value) : Prop := ∃ (C : String) (T : u_T) (ty : Nat → FieldType), vwCl[ci]? = some (C, T, N) ∧ (∀ c ∈ u_ws C T N, z_has w c) ∧ z_has w (.classLink own idx C) ∧ z_has w (.instantiable C N) ∧ z_has w (.initialized C) ∧
  (∀ k, k < N → parseFieldDescriptor (T k).2.2.1 = some (ty k)) ∧ (∀ j, j < N → defaultValue (ty j) = vp_V fs j) ∧ (∀ al : Nat → Nat, fs.map (z_v al) = fs) ∧ ∀ v ∈ fs, ∀ n, z_ok n v
theorem z_new {idx ci N : Nat} {fs : List Value} (hw : z_Wok w) (dg : decode Y.2.1 pc = .ok (.new idx, 3)) (hf : z_newF w Y.1.cls idx ci N fs) (hc1 : 1 ≤ nc) (hs1 : N ≤ ns)
    (kk : z_Ex w Y d Q (pc + 3) lv (.ref n0 :: st) (n0 + 1, va_up h n0 (.inr (ci, fs)), nc - 1, ns - N)) : z_Ex w Y d Q pc lv st (n0, h, nc, ns) := by
  intro p e R s m args below meth c H locs cells slots al ae ne ls C hR hT hl ho
  have hW := C.2.2.2.2.2.2.2.2.1
  have hK := z_K hw hW
  obtain ⟨hS, h3, h4, h5, h6⟩ := hT
  have h4 : ne ≤ n0 := h4
  have h5 : cells + nc ≤ R.cells := h5
  have h6 : slots + ns ≤ R.slots := h6
  obtain ⟨CC, TT, ty, e1, e2, e3, e4, e5, e6, e7, e8, e9⟩ := hf
  refine va_new (fs := fs) C.1 C.2.1 (fun c h => e2 c h _ _ hW) (fun _ h => h) ty e6 C.2.2.2.2.2.1 (e3 _ _ hW) (e4 _ _ hW) (e5 _ _ hW) hK hR.1 hR.2.1 hS (fun q h => h) e1 e7 (by omega) (by omega) dg (fun q H1 hP hD hS1 => ?_)
  have hext : ∀ i, i < n0 → va_up al n0 q i = al i := z_up_old
  have e10 : (Sum.inr (ci, fs) : va_E) = z_E w.2.2.2 al (.inr (ci, fs)) := by
    show _ = (Sum.inr (ci, fs.map (z_v al)) : va_E)
    rw [e8]
  rw [e10] at hP hD
  have k9 := kk p e R s m args below meth c H1 locs (cells + 1) (slots + N) (va_up al n0 q) ae ne ls C (hR.push (c := .inr (ci, fs)) (fun v hv => e9 v hv _) hP hD)
    ⟨hS1, fun i hi => (hext i (Nat.lt_of_lt_of_le hi h4)).trans (h3 i hi), Nat.le_succ_of_le h4, by show cells + 1 + (nc - 1) ≤ _; omega, by show slots + N + (ns - N) ≤ _; omega⟩
    (z_Lv_ext (Nat.le_succ _) hext hl) (z_oc (Nat.lt_succ_self _) (fun v hv => z_ok_mono (Nat.le_succ _) (ho v hv)))
  have e1 : (Value.ref n0 :: st).map (z_v (va_up al n0 q)) = .ref q :: st.map (z_v al) := by
    rw [List.map_cons, z_st_ext hext ho]
    simp [z_v, va_up]
  rw [e1] at k9
  exact k9
theorem z_objInit {idx : Nat} {u : Nat} (dg : decode Y.2.1 pc = .ok (.invokespecial idx, 3)) (h1 : z_has w (.methodLink Y.1.cls idx objectInit)) (h2 : z_has w (.instanceMethod objectInit)) (h3 : z_has w (.code objectInit ⟨#[0xb1]⟩ 1 none)) (hd : 1 ≤ d)
    (hst : ((st.map fun v => v.category).sum) ≤ 40) (kk : z_Ex w Y d Q (pc + 3) lv st M) : z_Ex w Y d Q pc lv (.ref u :: st) M := by
  intro p e R s m args below meth c H locs cells slots al ae ne ls C hR hT hl ho
  have hW := C.2.2.2.2.2.2.2.2.1
  have hF := C.2.2.2.2.2.2.2.2.2.1
  have hL := C.2.2.2.2.2.2.2.2.2.2
  have hcat : ((st.map (z_v al)).map fun v => v.category).sum = (st.map fun v => v.category).sum := by
    rw [List.map_map]; congr 1; exact List.map_congr_left (fun v _ => z_v_cat v)
  exact W.objInit C.1 C.2.1 C.2.2.2.2.2.1 (h1 _ _ hW) (h2 _ _ hW) (h3 _ _ hW) (g := F0 m pc ls (.ref (al u) :: st.map (z_v al))) rfl (by rw [C.2.2.1]; exact hl.1.1) rfl dg (by omega) (by
      show 2 * 0 + _ + 12 ≤ _
      rw [hcat]; omega) (kk p e R s m args below meth c H locs cells slots al ae ne ls C hR hT hl (z_ot ho))
end ZH
