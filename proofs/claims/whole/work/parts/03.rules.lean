section ZR
variable {w : z_W} {Y : z_Y} {d : Nat} {Q : z_O → z_M → Prop} {pc : Nat} {lv lv' : List (Nat × Value)} {st : List Value} {M : z_M}
def z_lk (lv : List (Nat × Value)) (i : Nat) : Option Value := (lv.find? (fun q => q.1 == i)).map Prod.snd
def z_s1 (lv : List (Nat × Value)) (i : Nat) (v : Value) : List (Nat × Value) := (i, v) :: lv.filter (fun q => !(q.1 == i) && !(q.1 + 1 == i && q.2.category == 2))
def z_s2 (lv : List (Nat × Value)) (i : Nat) (v : Value) : List (Nat × Value) := (i, v) :: lv.filter (fun q => !(q.1 == i) && (!(q.1 == i + 1) && !(q.1 + 1 == i && q.2.category == 2)))
theorem z_lk_mem {i : Nat} {v : Value} (h : z_lk lv i = some v) : (i, v) ∈ lv := by
  unfold z_lk at h
  cases hf : lv.find? (fun q => q.1 == i) with
  | none => rw [hf] at h; cases h
  | some q =>
    rw [hf] at h
    have h1 : q.2 = v := Option.some.inj h
    have h2 := List.find?_some hf
    have h3 : q.1 = i := by simpa using h2
    have h4 := List.mem_of_find?_eq_some hf
    rw [← h1, ← h3]
    exact h4
theorem z_lk_at {i : Nat} {v : Value} {al : Nat → Nat} {n nL : Nat} {ls : Array Slot} (h : z_lk lv i = some v) (hl : z_Lv al n nL ls lv) : ls[i]? = some (.val (z_v al v)) :=
  hl.1.2.2 (i, z_v al v) (List.mem_map.mpr ⟨(i, v), z_lk_mem h, rfl⟩)
theorem z_lk_ok {i : Nat} {v : Value} {n : Nat} (h : z_lk lv i = some v) (hl : ∀ q ∈ lv, z_ok n q.2) : z_ok n v := hl _ (z_lk_mem h)
theorem z_s1_map {al : Nat → Nat} {i : Nat} {v : Value} : (i, z_v al v) :: (lv.map fun q => (q.1, z_v al q.2)).filter (fun q => !(q.1 == i) && !(q.1 + 1 == i && q.2.category == 2)) = (z_s1 lv i v).map fun q => (q.1, z_v al q.2) := by
  unfold z_s1
  rw [List.map_cons, List.filter_map]
  congr 2
  apply List.filter_congr
  intro q _
  simp [z_v_cat]
theorem z_s2_map {al : Nat → Nat} {i : Nat} {v : Value} : (i, z_v al v) :: (lv.map fun q => (q.1, z_v al q.2)).filter (fun q => !(q.1 == i) && (!(q.1 == i + 1) && !(q.1 + 1 == i && q.2.category == 2))) = (z_s2 lv i v).map fun q => (q.1, z_v al q.2) := by
  unfold z_s2
  rw [List.map_cons, List.filter_map]
  congr 2
  apply List.filter_congr
  intro q _
  simp [z_v_cat]
theorem z_s1_ok {n i : Nat} {v : Value} (hv : z_ok n v) (hl : ∀ q ∈ lv, z_ok n q.2) : ∀ q ∈ z_s1 lv i v, z_ok n q.2 := fun q hq => by
  rcases List.mem_cons.mp hq with rfl | h
  · exact hv
  · exact hl q (List.mem_filter.mp h).1
theorem z_s2_ok {n i : Nat} {v : Value} (hv : z_ok n v) (hl : ∀ q ∈ lv, z_ok n q.2) : ∀ q ∈ z_s2 lv i v, z_ok n q.2 := fun q hq => by
  rcases List.mem_cons.mp hq with rfl | h
  · exact hv
  · exact hl q (List.mem_filter.mp h).1
theorem z_oc {n : Nat} {v : Value} (hv : z_ok n v) (h : ∀ u ∈ st, z_ok n u) : ∀ u ∈ v :: st, z_ok n u := fun u hu => by
  rcases List.mem_cons.mp hu with rfl | h9
  · exact hv
  · exact h u h9
theorem z_ot {n : Nat} {v : Value} (h : ∀ u ∈ v :: st, z_ok n u) : ∀ u ∈ st, z_ok n u := fun u hu => h u (List.mem_cons_of_mem _ hu)
theorem z_oh {n : Nat} {v : Value} (h : ∀ u ∈ v :: st, z_ok n u) : z_ok n v := h v List.mem_cons_self
theorem z_go0 {st' : List Value} {pc' : Nat} (hok : (∀ v ∈ st, z_ok M.1 v) → (∀ q ∈ lv, z_ok M.1 q.2) → ∀ v ∈ st', z_ok M.1 v)
    (h : ∀ {p : Program} {l : Launch} {e : Env} {R : Room} {s : State} {m : MethodId} {args : Array Value} {below : List Frame} {meth : Method} {c : Code} {H : Heap} {locs : List Loc} {cells slots : Nat} {Q' : State → Prop} {al : Nat → Nat} {ls : Array Slot},
      p.tables.exec = Jvm.exec → c.code = Y.2.1 → s.vm.findClass Y.1.cls = some m.cls → w.2.1.WarmedH s.vm → z_Lv al M.1 Y.2.2.1 ls lv →
      W p l e R s m args below meth c H locs cells slots Q' (F0 m pc' ls (st'.map (z_v al))) → W p l e R s m args below meth c H locs cells slots Q' (F0 m pc ls (st.map (z_v al))))
    (k : z_Ex w Y d Q pc' lv st' M) : z_Ex w Y d Q pc lv st M := by
  intro p e R s m args below meth c H locs cells slots al ae ne ls C hR hT hl ho
  exact h C.1 C.2.1 C.2.2.2.2.2.1 C.2.2.2.2.2.2.2.2.1 hl (k p e R s m args below meth c H locs cells slots al ae ne ls C hR hT hl (hok ho hl.2))
theorem z_go1 {st' : List Value} {pc' : Nat} (hok : (∀ v ∈ st, z_ok M.1 v) → (∀ q ∈ lv, z_ok M.1 q.2) → (∀ v ∈ st', z_ok M.1 v) ∧ ∀ q ∈ lv', z_ok M.1 q.2)
    (h : ∀ {p : Program} {l : Launch} {e : Env} {R : Room} {s : State} {m : MethodId} {args : Array Value} {below : List Frame} {meth : Method} {c : Code} {H : Heap} {locs : List Loc} {cells slots : Nat} {Q' : State → Prop} {al : Nat → Nat} {ls : Array Slot},
      p.tables.exec = Jvm.exec → c.code = Y.2.1 → z_Lv al M.1 Y.2.2.1 ls lv →
      (∀ ls' : Array Slot, lv_has ls' Y.2.2.1 (lv'.map fun q => (q.1, z_v al q.2)) → W p l e R s m args below meth c H locs cells slots Q' (F0 m pc' ls' (st'.map (z_v al)))) → W p l e R s m args below meth c H locs cells slots Q' (F0 m pc ls (st.map (z_v al))))
    (k : z_Ex w Y d Q pc' lv' st' M) : z_Ex w Y d Q pc lv st M := by
  intro p e R s m args below meth c H locs cells slots al ae ne ls C hR hT hl ho
  have h9 := hok ho hl.2
  exact h C.1 C.2.1 hl (fun ls' hl' => k p e R s m args below meth c H locs cells slots al ae ne ls' C hR hT ⟨hl', h9.2⟩ h9.1)
theorem z_go2 {st' : List Value} {pc1 pc2 : Nat} {P1 P2 : Prop} (hok : (∀ v ∈ st, z_ok M.1 v) → ∀ v ∈ st', z_ok M.1 v)
    (h : ∀ {p : Program} {l : Launch} {e : Env} {R : Room} {s : State} {m : MethodId} {args : Array Value} {below : List Frame} {meth : Method} {c : Code} {H : Heap} {locs : List Loc} {cells slots : Nat} {Q' : State → Prop} {al : Nat → Nat} {ls : Array Slot},
      p.tables.exec = Jvm.exec → c.code = Y.2.1 → (P1 → W p l e R s m args below meth c H locs cells slots Q' (F0 m pc1 ls (st'.map (z_v al)))) → (P2 → W p l e R s m args below meth c H locs cells slots Q' (F0 m pc2 ls (st'.map (z_v al)))) →
      W p l e R s m args below meth c H locs cells slots Q' (F0 m pc ls (st.map (z_v al))))
    (k1 : P1 → z_Ex w Y d Q pc1 lv st' M) (k2 : P2 → z_Ex w Y d Q pc2 lv st' M) : z_Ex w Y d Q pc lv st M := by
  intro p e R s m args below meth c H locs cells slots al ae ne ls C hR hT hl ho
  exact h C.1 C.2.1 (fun h1 => k1 h1 p e R s m args below meth c H locs cells slots al ae ne ls C hR hT hl (hok ho)) (fun h1 => k2 h1 p e R s m args below meth c H locs cells slots al ae ne ls C hR hT hl (hok ho))

theorem z_iconst {n : Int} {v : Int32} (dg : decode Y.2.1 pc = .ok (.iconst n, 1)) (hv : Int32.ofInt n = v) (k : z_Ex w Y d Q (pc + 1) lv (.int v :: st) M) : z_Ex w Y d Q pc lv (st) M :=
  z_go0 (fun ho hq => by exact z_oc trivial ho) (fun hx hb hown hW hl k => by exact lv_iconst hx hb dg hv k) k
theorem z_bipush {n : Int} {v : Int32} (dg : decode Y.2.1 pc = .ok (.bipush n, 2)) (hv : (Int8.ofInt n).toInt32 = v) (k : z_Ex w Y d Q (pc + 2) lv (.int v :: st) M) : z_Ex w Y d Q pc lv (st) M :=
  z_go0 (fun ho hq => by exact z_oc trivial ho) (fun hx hb hown hW hl k => by exact lv_bipush hx hb dg hv k) k
theorem z_sipush {n : Int} {v : Int32} (dg : decode Y.2.1 pc = .ok (.sipush n, 3)) (hv : (Int16.ofInt n).toInt32 = v) (k : z_Ex w Y d Q (pc + 3) lv (.int v :: st) M) : z_Ex w Y d Q pc lv (st) M :=
  z_go0 (fun ho hq => by exact z_oc trivial ho) (fun hx hb hown hW hl k => by exact lv_sipush hx hb dg hv k) k
theorem z_lconst {n : Fin 2} {v : Int64} (dg : decode Y.2.1 pc = .ok (.lconst n, 1)) (hv : Int64.ofNat (n : Nat) = v) (k : z_Ex w Y d Q (pc + 1) lv (.long v :: st) M) : z_Ex w Y d Q pc lv (st) M :=
  z_go0 (fun ho hq => by exact z_oc trivial ho) (fun hx hb hown hW hl k => by exact lv_lconst hx hb dg hv k) k
theorem z_null  (dg : decode Y.2.1 pc = .ok (.aconst_null, 1))  (k : z_Ex w Y d Q (pc + 1) lv (.null :: st) M) : z_Ex w Y d Q pc lv (st) M :=
  z_go0 (fun ho hq => by exact z_oc trivial ho) (fun hx hb hown hW hl k => by exact lv_null hx hb dg k) k
theorem z_iload_n {k9 : Fin 4} {i : Nat} {x : Int32} (dg : decode Y.2.1 pc = .ok (.iload_n k9, 1)) (hi : (k9 : Nat) = i) (hv : z_lk lv i = some (.int x)) (k : z_Ex w Y d Q (pc + 1) lv (.int x :: st) M) : z_Ex w Y d Q pc lv (st) M :=
  z_go0 (fun ho hq => by exact z_oc trivial ho) (fun hx hb hown hW hl k => by exact lv_iload_n hx hb dg hi (z_lk_at hv hl) k) k
theorem z_iload {i : Nat} {x : Int32} (dg : decode Y.2.1 pc = .ok (.iload i, 2)) (hv : z_lk lv i = some (.int x)) (k : z_Ex w Y d Q (pc + 2) lv (.int x :: st) M) : z_Ex w Y d Q pc lv (st) M :=
  z_go0 (fun ho hq => by exact z_oc trivial ho) (fun hx hb hown hW hl k => by exact lv_iload hx hb dg (z_lk_at hv hl) k) k
theorem z_lload_n {k9 : Fin 4} {i : Nat} {x : Int64} (dg : decode Y.2.1 pc = .ok (.lload_n k9, 1)) (hi : (k9 : Nat) = i) (hv : z_lk lv i = some (.long x)) (k : z_Ex w Y d Q (pc + 1) lv (.long x :: st) M) : z_Ex w Y d Q pc lv (st) M :=
  z_go0 (fun ho hq => by exact z_oc trivial ho) (fun hx hb hown hW hl k => by exact lv_lload_n hx hb dg hi (z_lk_at hv hl) k) k
theorem z_lload {i : Nat} {x : Int64} (dg : decode Y.2.1 pc = .ok (.lload i, 2)) (hv : z_lk lv i = some (.long x)) (k : z_Ex w Y d Q (pc + 2) lv (.long x :: st) M) : z_Ex w Y d Q pc lv (st) M :=
  z_go0 (fun ho hq => by exact z_oc trivial ho) (fun hx hb hown hW hl k => by exact lv_lload hx hb dg (z_lk_at hv hl) k) k
theorem z_aload_n {k9 : Fin 4} {i : Nat} {x : Nat} (dg : decode Y.2.1 pc = .ok (.aload_n k9, 1)) (hi : (k9 : Nat) = i) (hv : z_lk lv i = some (.ref x)) (k : z_Ex w Y d Q (pc + 1) lv (.ref x :: st) M) : z_Ex w Y d Q pc lv (st) M :=
  z_go0 (fun ho hq => by exact z_oc (z_lk_ok hv hq) ho) (fun hx hb hown hW hl k => by exact lv_aload_n hx hb dg hi (z_lk_at hv hl) k) k
theorem z_aload {i : Nat} {x : Nat} (dg : decode Y.2.1 pc = .ok (.aload i, 2)) (hv : z_lk lv i = some (.ref x)) (k : z_Ex w Y d Q (pc + 2) lv (.ref x :: st) M) : z_Ex w Y d Q pc lv (st) M :=
  z_go0 (fun ho hq => by exact z_oc (z_lk_ok hv hq) ho) (fun hx hb hown hW hl k => by exact lv_aload hx hb dg (z_lk_at hv hl) k) k
theorem z_aload_nN {k9 : Fin 4} {i : Nat} (dg : decode Y.2.1 pc = .ok (.aload_n k9, 1)) (hi : (k9 : Nat) = i) (hv : z_lk lv i = some .null) (k : z_Ex w Y d Q (pc + 1) lv (.null :: st) M) : z_Ex w Y d Q pc lv (st) M :=
  z_go0 (fun ho hq => by exact z_oc trivial ho) (fun hx hb hown hW hl k => by exact lv_aload_nN hx hb dg hi (z_lk_at hv hl) k) k
theorem z_aloadN {i : Nat} (dg : decode Y.2.1 pc = .ok (.aload i, 2)) (hv : z_lk lv i = some .null) (k : z_Ex w Y d Q (pc + 2) lv (.null :: st) M) : z_Ex w Y d Q pc lv (st) M :=
  z_go0 (fun ho hq => by exact z_oc trivial ho) (fun hx hb hown hW hl k => by exact lv_aloadN hx hb dg (z_lk_at hv hl) k) k
theorem z_iadd {x y : Int32} (dg : decode Y.2.1 pc = .ok (.iadd, 1))  (k : z_Ex w Y d Q (pc + 1) lv (.int (x + y) :: st) M) : z_Ex w Y d Q pc lv (.int y :: .int x :: st) M :=
  z_go0 (fun ho hq => by exact z_oc trivial (z_ot (z_ot ho))) (fun hx hb hown hW hl k => by exact lv_iadd hx hb dg k) k
theorem z_isub {x y : Int32} (dg : decode Y.2.1 pc = .ok (.isub, 1))  (k : z_Ex w Y d Q (pc + 1) lv (.int (x - y) :: st) M) : z_Ex w Y d Q pc lv (.int y :: .int x :: st) M :=
  z_go0 (fun ho hq => by exact z_oc trivial (z_ot (z_ot ho))) (fun hx hb hown hW hl k => by exact lv_isub hx hb dg k) k
theorem z_imul {x y : Int32} (dg : decode Y.2.1 pc = .ok (.imul, 1))  (k : z_Ex w Y d Q (pc + 1) lv (.int (x * y) :: st) M) : z_Ex w Y d Q pc lv (.int y :: .int x :: st) M :=
  z_go0 (fun ho hq => by exact z_oc trivial (z_ot (z_ot ho))) (fun hx hb hown hW hl k => by exact lv_imul hx hb dg k) k
theorem z_iand {x y : Int32} (dg : decode Y.2.1 pc = .ok (.iand, 1))  (k : z_Ex w Y d Q (pc + 1) lv (.int (x &&& y) :: st) M) : z_Ex w Y d Q pc lv (.int y :: .int x :: st) M :=
  z_go0 (fun ho hq => by exact z_oc trivial (z_ot (z_ot ho))) (fun hx hb hown hW hl k => by exact lv_iand hx hb dg k) k
theorem z_ior {x y : Int32} (dg : decode Y.2.1 pc = .ok (.ior, 1))  (k : z_Ex w Y d Q (pc + 1) lv (.int (x ||| y) :: st) M) : z_Ex w Y d Q pc lv (.int y :: .int x :: st) M :=
  z_go0 (fun ho hq => by exact z_oc trivial (z_ot (z_ot ho))) (fun hx hb hown hW hl k => by exact lv_ior hx hb dg k) k
theorem z_ixor {x y : Int32} (dg : decode Y.2.1 pc = .ok (.ixor, 1))  (k : z_Ex w Y d Q (pc + 1) lv (.int (x ^^^ y) :: st) M) : z_Ex w Y d Q pc lv (.int y :: .int x :: st) M :=
  z_go0 (fun ho hq => by exact z_oc trivial (z_ot (z_ot ho))) (fun hx hb hown hW hl k => by exact lv_ixor hx hb dg k) k
theorem z_ishl {x y : Int32} (dg : decode Y.2.1 pc = .ok (.ishl, 1))  (k : z_Ex w Y d Q (pc + 1) lv (.int (x <<< (y &&& 31)) :: st) M) : z_Ex w Y d Q pc lv (.int y :: .int x :: st) M :=
  z_go0 (fun ho hq => by exact z_oc trivial (z_ot (z_ot ho))) (fun hx hb hown hW hl k => by exact lv_ishl hx hb dg k) k
theorem z_ishr {x y : Int32} (dg : decode Y.2.1 pc = .ok (.ishr, 1))  (k : z_Ex w Y d Q (pc + 1) lv (.int (x >>> (y &&& 31)) :: st) M) : z_Ex w Y d Q pc lv (.int y :: .int x :: st) M :=
  z_go0 (fun ho hq => by exact z_oc trivial (z_ot (z_ot ho))) (fun hx hb hown hW hl k => by exact lv_ishr hx hb dg k) k
theorem z_idiv {x y : Int32} (dg : decode Y.2.1 pc = .ok (.idiv, 1)) (hne : ¬ y = 0) (k : z_Ex w Y d Q (pc + 1) lv (.int (x / y) :: st) M) : z_Ex w Y d Q pc lv (.int y :: .int x :: st) M :=
  z_go0 (fun ho hq => by exact z_oc trivial (z_ot (z_ot ho))) (fun hx hb hown hW hl k => by exact lv_idiv hx hb dg hne k) k
theorem z_irem {x y : Int32} (dg : decode Y.2.1 pc = .ok (.irem, 1)) (hne : ¬ y = 0) (k : z_Ex w Y d Q (pc + 1) lv (.int (x - x / y * y) :: st) M) : z_Ex w Y d Q pc lv (.int y :: .int x :: st) M :=
  z_go0 (fun ho hq => by exact z_oc trivial (z_ot (z_ot ho))) (fun hx hb hown hW hl k => by exact lv_irem hx hb dg hne k) k
theorem z_ladd {x y : Int64} (dg : decode Y.2.1 pc = .ok (.ladd, 1))  (k : z_Ex w Y d Q (pc + 1) lv (.long (x + y) :: st) M) : z_Ex w Y d Q pc lv (.long y :: .long x :: st) M :=
  z_go0 (fun ho hq => by exact z_oc trivial (z_ot (z_ot ho))) (fun hx hb hown hW hl k => by exact lv_ladd hx hb dg k) k
theorem z_lsub {x y : Int64} (dg : decode Y.2.1 pc = .ok (.lsub, 1))  (k : z_Ex w Y d Q (pc + 1) lv (.long (x - y) :: st) M) : z_Ex w Y d Q pc lv (.long y :: .long x :: st) M :=
  z_go0 (fun ho hq => by exact z_oc trivial (z_ot (z_ot ho))) (fun hx hb hown hW hl k => by exact lv_lsub hx hb dg k) k
theorem z_land {x y : Int64} (dg : decode Y.2.1 pc = .ok (.land, 1))  (k : z_Ex w Y d Q (pc + 1) lv (.long (x &&& y) :: st) M) : z_Ex w Y d Q pc lv (.long y :: .long x :: st) M :=
  z_go0 (fun ho hq => by exact z_oc trivial (z_ot (z_ot ho))) (fun hx hb hown hW hl k => by exact lv_land hx hb dg k) k
theorem z_lor {x y : Int64} (dg : decode Y.2.1 pc = .ok (.lor, 1))  (k : z_Ex w Y d Q (pc + 1) lv (.long (x ||| y) :: st) M) : z_Ex w Y d Q pc lv (.long y :: .long x :: st) M :=
  z_go0 (fun ho hq => by exact z_oc trivial (z_ot (z_ot ho))) (fun hx hb hown hW hl k => by exact lv_lor hx hb dg k) k
theorem z_lxor {x y : Int64} (dg : decode Y.2.1 pc = .ok (.lxor, 1))  (k : z_Ex w Y d Q (pc + 1) lv (.long (x ^^^ y) :: st) M) : z_Ex w Y d Q pc lv (.long y :: .long x :: st) M :=
  z_go0 (fun ho hq => by exact z_oc trivial (z_ot (z_ot ho))) (fun hx hb hown hW hl k => by exact lv_lxor hx hb dg k) k
theorem z_i2l {x : Int32} (dg : decode Y.2.1 pc = .ok (.i2l, 1))  (k : z_Ex w Y d Q (pc + 1) lv (.long x.toInt64 :: st) M) : z_Ex w Y d Q pc lv (.int x :: st) M :=
  z_go0 (fun ho hq => by exact z_oc trivial (z_ot ho)) (fun hx hb hown hW hl k => by exact lv_i2l hx hb dg rfl k) k
theorem z_l2i {x : Int64} (dg : decode Y.2.1 pc = .ok (.l2i, 1))  (k : z_Ex w Y d Q (pc + 1) lv (.int x.toInt32 :: st) M) : z_Ex w Y d Q pc lv (.long x :: st) M :=
  z_go0 (fun ho hq => by exact z_oc trivial (z_ot ho)) (fun hx hb hown hW hl k => by exact lv_l2i hx hb dg rfl k) k
theorem z_i2b {x : Int32} (dg : decode Y.2.1 pc = .ok (.i2b, 1))  (k : z_Ex w Y d Q (pc + 1) lv (.int x.toInt8.toInt32 :: st) M) : z_Ex w Y d Q pc lv (.int x :: st) M :=
  z_go0 (fun ho hq => by exact z_oc trivial (z_ot ho)) (fun hx hb hown hW hl k => by exact lv_i2b hx hb dg rfl k) k
theorem z_i2s {x : Int32} (dg : decode Y.2.1 pc = .ok (.i2s, 1))  (k : z_Ex w Y d Q (pc + 1) lv (.int x.toInt16.toInt32 :: st) M) : z_Ex w Y d Q pc lv (.int x :: st) M :=
  z_go0 (fun ho hq => by exact z_oc trivial (z_ot ho)) (fun hx hb hown hW hl k => by exact lv_i2s hx hb dg rfl k) k
theorem z_lshl {x : Int64} {y : Int32} (dg : decode Y.2.1 pc = .ok (.lshl, 1))  (k : z_Ex w Y d Q (pc + 1) lv (.long (x <<< (y.toInt64 &&& 63)) :: st) M) : z_Ex w Y d Q pc lv (.int y :: .long x :: st) M :=
  z_go0 (fun ho hq => by exact z_oc trivial (z_ot (z_ot ho))) (fun hx hb hown hW hl k => by exact lv_lshl hx hb dg rfl k) k
theorem z_lshr {x : Int64} {y : Int32} (dg : decode Y.2.1 pc = .ok (.lshr, 1))  (k : z_Ex w Y d Q (pc + 1) lv (.long (x >>> (y.toInt64 &&& 63)) :: st) M) : z_Ex w Y d Q pc lv (.int y :: .long x :: st) M :=
  z_go0 (fun ho hq => by exact z_oc trivial (z_ot (z_ot ho))) (fun hx hb hown hW hl k => by exact lv_lshr hx hb dg rfl k) k
theorem z_lcmp {x y : Int64} (dg : decode Y.2.1 pc = .ok (.lcmp, 1))  (k : z_Ex w Y d Q (pc + 1) lv (.int (lg_cmp x y) :: st) M) : z_Ex w Y d Q pc lv (.long y :: .long x :: st) M :=
  z_go0 (fun ho hq => by exact z_oc trivial (z_ot (z_ot ho))) (fun hx hb hown hW hl k => by exact W.lcmp hx hb dg k) k
theorem z_dup {u : Value} (dg : decode Y.2.1 pc = .ok (.dup, 1)) (h1 : u.category = 1) (k : z_Ex w Y d Q (pc + 1) lv (u :: u :: st) M) : z_Ex w Y d Q pc lv (u :: st) M :=
  z_go0 (fun ho hq => by exact z_oc (z_oh ho) ho) (fun hx hb hown hW hl k => by exact lv_dup hx hb dg ((z_v_cat _).trans h1) k) k
theorem z_pop {u : Value} (dg : decode Y.2.1 pc = .ok (.pop, 1)) (h1 : u.category = 1) (k : z_Ex w Y d Q (pc + 1) lv (st) M) : z_Ex w Y d Q pc lv (u :: st) M :=
  z_go0 (fun ho hq => by exact (z_ot ho)) (fun hx hb hown hW hl k => by exact lv_pop hx hb dg ((z_v_cat _).trans h1) k) k
theorem z_dup_x1 {u v : Value} (dg : decode Y.2.1 pc = .ok (.dup_x1, 1)) (h1 : u.category = 1) (h2 : v.category = 1) (k : z_Ex w Y d Q (pc + 1) lv (u :: v :: u :: st) M) : z_Ex w Y d Q pc lv (u :: v :: st) M :=
  z_go0 (fun ho hq => by exact z_oc (z_oh ho) (z_oc (z_oh (z_ot ho)) (z_oc (z_oh ho) (z_ot (z_ot ho))))) (fun hx hb hown hW hl k => by exact lv_dup_x1 hx hb dg ((z_v_cat _).trans h1) ((z_v_cat _).trans h2) k) k
theorem z_dup_x2 {u v t : Value} (dg : decode Y.2.1 pc = .ok (.dup_x2, 1)) (h1 : u.category = 1) (h2 : v.category = 1) (h3 : t.category = 1) (k : z_Ex w Y d Q (pc + 1) lv (u :: v :: t :: u :: st) M) : z_Ex w Y d Q pc lv (u :: v :: t :: st) M :=
  z_go0 (fun ho hq => by exact z_oc (z_oh ho) (z_oc (z_oh (z_ot ho)) (z_oc (z_oh (z_ot (z_ot ho))) (z_oc (z_oh ho) (z_ot (z_ot (z_ot ho))))))) (fun hx hb hown hW hl k => by exact lv_dup_x2 hx hb dg ((z_v_cat _).trans h1) ((z_v_cat _).trans h2) ((z_v_cat _).trans h3) k) k
theorem z_dup2 {u v : Value} (dg : decode Y.2.1 pc = .ok (.dup2, 1)) (h1 : u.category = 1) (h2 : v.category = 1) (k : z_Ex w Y d Q (pc + 1) lv (u :: v :: u :: v :: st) M) : z_Ex w Y d Q pc lv (u :: v :: st) M :=
  z_go0 (fun ho hq => by exact z_oc (z_oh ho) (z_oc (z_oh (z_ot ho)) ho)) (fun hx hb hown hW hl k => by exact lv_dup2_11 hx hb dg ((z_v_cat _).trans h1) ((z_v_cat _).trans h2) k) k
theorem z_ldc2 {idx : Nat} {v : Int64} (dg : decode Y.2.1 pc = .ok (.ldc2_w idx, 3)) (hc : z_has w (.constantLong Y.1.cls idx v)) (k : z_Ex w Y d Q (pc + 3) lv (.long v :: st) M) : z_Ex w Y d Q pc lv (st) M :=
  z_go0 (fun ho hq => by exact z_oc trivial ho) (fun hx hb hown hW hl k => by exact lv_ldc2 hx hb hown (hc _ _ hW) dg k) k
theorem z_ldc {idx : Nat} {v : Int32} (dg : decode Y.2.1 pc = .ok (.ldc idx, 2)) (hc : z_has w (.constant Y.1.cls idx v)) (k : z_Ex w Y d Q (pc + 2) lv (.int v :: st) M) : z_Ex w Y d Q pc lv (st) M :=
  z_go0 (fun ho hq => by exact z_oc trivial ho) (fun hx hb hown hW hl k => by exact lv_ldc hx hb hown (hc _ _ hW) dg k) k
theorem z_istore_n {k9 : Fin 4} {i : Nat} {x : Int32} (dg : decode Y.2.1 pc = .ok (.istore_n k9, 1)) (hi : (k9 : Nat) = i) (hn : i < Y.2.2.1) (hs : z_s1 lv i (.int x) = lv') (k : z_Ex w Y d Q (pc + 1) lv' st M) : z_Ex w Y d Q pc lv (.int x :: st) M := by
  subst hs
  exact z_go1 (fun ho hq => by exact ⟨z_ot ho, z_s1_ok (z_oh ho) hq⟩) (fun hx hb hl k => by exact lv_istore_n hx hb dg hi hl.1 hn (z_s1_map (v := .int x)) (fun ls' hl' => k ls' hl')) k
theorem z_istore {i : Nat} {x : Int32} (dg : decode Y.2.1 pc = .ok (.istore i, 2)) (hn : i < Y.2.2.1) (hs : z_s1 lv i (.int x) = lv') (k : z_Ex w Y d Q (pc + 2) lv' st M) : z_Ex w Y d Q pc lv (.int x :: st) M := by
  subst hs
  exact z_go1 (fun ho hq => by exact ⟨z_ot ho, z_s1_ok (z_oh ho) hq⟩) (fun hx hb hl k => by exact lv_istore hx hb dg hl.1 hn (z_s1_map (v := .int x)) (fun ls' hl' => k ls' hl')) k
theorem z_astore_n {k9 : Fin 4} {i : Nat} {x : Nat} (dg : decode Y.2.1 pc = .ok (.astore_n k9, 1)) (hi : (k9 : Nat) = i) (hn : i < Y.2.2.1) (hs : z_s1 lv i (.ref x) = lv') (k : z_Ex w Y d Q (pc + 1) lv' st M) : z_Ex w Y d Q pc lv (.ref x :: st) M := by
  subst hs
  exact z_go1 (fun ho hq => by exact ⟨z_ot ho, z_s1_ok (z_oh ho) hq⟩) (fun hx hb hl k => by exact lv_astore_n hx hb dg hi hl.1 hn (z_s1_map (v := .ref x)) (fun ls' hl' => k ls' hl')) k
theorem z_astore {i : Nat} {x : Nat} (dg : decode Y.2.1 pc = .ok (.astore i, 2)) (hn : i < Y.2.2.1) (hs : z_s1 lv i (.ref x) = lv') (k : z_Ex w Y d Q (pc + 2) lv' st M) : z_Ex w Y d Q pc lv (.ref x :: st) M := by
  subst hs
  exact z_go1 (fun ho hq => by exact ⟨z_ot ho, z_s1_ok (z_oh ho) hq⟩) (fun hx hb hl k => by exact lv_astore hx hb dg hl.1 hn (z_s1_map (v := .ref x)) (fun ls' hl' => k ls' hl')) k
theorem z_lstore_n {k9 : Fin 4} {i : Nat} {x : Int64} (dg : decode Y.2.1 pc = .ok (.lstore_n k9, 1)) (hi : (k9 : Nat) = i) (hn : i + 1 < Y.2.2.1) (hs : z_s2 lv i (.long x) = lv') (k : z_Ex w Y d Q (pc + 1) lv' st M) : z_Ex w Y d Q pc lv (.long x :: st) M := by
  subst hs
  exact z_go1 (fun ho hq => by exact ⟨z_ot ho, z_s2_ok (z_oh ho) hq⟩) (fun hx hb hl k => by exact lv_lstore_n hx hb dg hi hl.1 hn (z_s2_map (v := .long x)) (fun ls' hl' => k ls' hl')) k
theorem z_lstore {i : Nat} {x : Int64} (dg : decode Y.2.1 pc = .ok (.lstore i, 2)) (hn : i + 1 < Y.2.2.1) (hs : z_s2 lv i (.long x) = lv') (k : z_Ex w Y d Q (pc + 2) lv' st M) : z_Ex w Y d Q pc lv (.long x :: st) M := by
  subst hs
  exact z_go1 (fun ho hq => by exact ⟨z_ot ho, z_s2_ok (z_oh ho) hq⟩) (fun hx hb hl k => by exact lv_lstore hx hb dg hl.1 hn (z_s2_map (v := .long x)) (fun ls' hl' => k ls' hl')) k
theorem z_astore_nN {k9 : Fin 4} {i : Nat} (dg : decode Y.2.1 pc = .ok (.astore_n k9, 1)) (hi : (k9 : Nat) = i) (hn : i < Y.2.2.1) (hs : z_s1 lv i .null = lv') (k : z_Ex w Y d Q (pc + 1) lv' st M) : z_Ex w Y d Q pc lv (.null :: st) M := by
  subst hs
  exact z_go1 (fun ho hq => by exact ⟨z_ot ho, z_s1_ok (v := .null) trivial hq⟩) (fun hx hb hl k => by exact lv_astore_nN hx hb dg hi hl.1 hn (z_s1_map (v := .null)) (fun ls' hl' => k ls' hl')) k
theorem z_astoreN {i : Nat} (dg : decode Y.2.1 pc = .ok (.astore i, 2)) (hn : i < Y.2.2.1) (hs : z_s1 lv i .null = lv') (k : z_Ex w Y d Q (pc + 2) lv' st M) : z_Ex w Y d Q pc lv (.null :: st) M := by
  subst hs
  exact z_go1 (fun ho hq => by exact ⟨z_ot ho, z_s1_ok (v := .null) trivial hq⟩) (fun hx hb hl k => by exact lv_astoreN hx hb dg hl.1 hn (z_s1_map (v := .null)) (fun ls' hl' => k ls' hl')) k
theorem z_iinc {i : Nat} {n : Int} {x : Int32} (dg : decode Y.2.1 pc = .ok (.iinc i n, 3)) (hv : z_lk lv i = some (.int x)) (hn : i < Y.2.2.1) (hs : z_s1 lv i (.int (x + Int32.ofInt n)) = lv') (k : z_Ex w Y d Q (pc + 3) lv' st M) : z_Ex w Y d Q pc lv st M := by
  subst hs
  refine z_go1 (fun ho hq => ⟨ho, z_s1_ok (v := .int _) trivial hq⟩) (fun {p l e R s m args below meth c H locs cells slots Q' al ls} hx hb hl k => ?_) k
  obtain ⟨j, hj⟩ := List.getElem?_of_mem (List.mem_map.mpr ⟨(i, .int x), z_lk_mem hv, rfl⟩ : (i, z_v al (.int x)) ∈ lv.map fun q => (q.1, z_v al q.2))
  exact lv_iinc hx hb dg hl.1 (k := j) hj rfl hn (z_s1_map (v := .int _)) (fun ls' hl' => k ls' hl')
theorem z_if_eq {x : Int32} {off : Int} {tgt : Nat} (dg : decode Y.2.1 pc = .ok (.ifCond .eq off, 3)) (ht : (pc : Int) + off = (tgt : Int)) (k1 : x = 0 → z_Ex w Y d Q tgt lv st M) (k2 : ¬ x = 0 → z_Ex w Y d Q (pc + 3) lv st M) : z_Ex w Y d Q pc lv (.int x :: st) M :=
  z_go2 (fun ho => by exact z_ot ho) (fun hx hb k1 k2 => by exact lv_if_eq hx hb dg ht k1 k2) k1 k2
theorem z_icmp_eq {x y : Int32} {off : Int} {tgt : Nat} (dg : decode Y.2.1 pc = .ok (.if_icmp .eq off, 3)) (ht : (pc : Int) + off = (tgt : Int)) (k1 : x = y → z_Ex w Y d Q tgt lv st M) (k2 : ¬ x = y → z_Ex w Y d Q (pc + 3) lv st M) : z_Ex w Y d Q pc lv (.int y :: .int x :: st) M :=
  z_go2 (fun ho => by exact z_ot (z_ot ho)) (fun hx hb k1 k2 => by exact lv_icmp_eq hx hb dg ht k1 k2) k1 k2
theorem z_if_ne {x : Int32} {off : Int} {tgt : Nat} (dg : decode Y.2.1 pc = .ok (.ifCond .ne off, 3)) (ht : (pc : Int) + off = (tgt : Int)) (k1 : ¬ x = 0 → z_Ex w Y d Q tgt lv st M) (k2 : x = 0 → z_Ex w Y d Q (pc + 3) lv st M) : z_Ex w Y d Q pc lv (.int x :: st) M :=
  z_go2 (fun ho => by exact z_ot ho) (fun hx hb k1 k2 => by exact lv_if_ne hx hb dg ht k1 k2) k1 k2
theorem z_icmp_ne {x y : Int32} {off : Int} {tgt : Nat} (dg : decode Y.2.1 pc = .ok (.if_icmp .ne off, 3)) (ht : (pc : Int) + off = (tgt : Int)) (k1 : ¬ x = y → z_Ex w Y d Q tgt lv st M) (k2 : x = y → z_Ex w Y d Q (pc + 3) lv st M) : z_Ex w Y d Q pc lv (.int y :: .int x :: st) M :=
  z_go2 (fun ho => by exact z_ot (z_ot ho)) (fun hx hb k1 k2 => by exact lv_icmp_ne hx hb dg ht k1 k2) k1 k2
theorem z_if_lt {x : Int32} {off : Int} {tgt : Nat} (dg : decode Y.2.1 pc = .ok (.ifCond .lt off, 3)) (ht : (pc : Int) + off = (tgt : Int)) (k1 : x < 0 → z_Ex w Y d Q tgt lv st M) (k2 : ¬ x < 0 → z_Ex w Y d Q (pc + 3) lv st M) : z_Ex w Y d Q pc lv (.int x :: st) M :=
  z_go2 (fun ho => by exact z_ot ho) (fun hx hb k1 k2 => by exact lv_if_lt hx hb dg ht k1 k2) k1 k2
theorem z_icmp_lt {x y : Int32} {off : Int} {tgt : Nat} (dg : decode Y.2.1 pc = .ok (.if_icmp .lt off, 3)) (ht : (pc : Int) + off = (tgt : Int)) (k1 : x < y → z_Ex w Y d Q tgt lv st M) (k2 : ¬ x < y → z_Ex w Y d Q (pc + 3) lv st M) : z_Ex w Y d Q pc lv (.int y :: .int x :: st) M :=
  z_go2 (fun ho => by exact z_ot (z_ot ho)) (fun hx hb k1 k2 => by exact lv_icmp_lt hx hb dg ht k1 k2) k1 k2
theorem z_if_ge {x : Int32} {off : Int} {tgt : Nat} (dg : decode Y.2.1 pc = .ok (.ifCond .ge off, 3)) (ht : (pc : Int) + off = (tgt : Int)) (k1 : 0 ≤ x → z_Ex w Y d Q tgt lv st M) (k2 : ¬ 0 ≤ x → z_Ex w Y d Q (pc + 3) lv st M) : z_Ex w Y d Q pc lv (.int x :: st) M :=
  z_go2 (fun ho => by exact z_ot ho) (fun hx hb k1 k2 => by exact lv_if_ge hx hb dg ht k1 k2) k1 k2
theorem z_icmp_ge {x y : Int32} {off : Int} {tgt : Nat} (dg : decode Y.2.1 pc = .ok (.if_icmp .ge off, 3)) (ht : (pc : Int) + off = (tgt : Int)) (k1 : y ≤ x → z_Ex w Y d Q tgt lv st M) (k2 : ¬ y ≤ x → z_Ex w Y d Q (pc + 3) lv st M) : z_Ex w Y d Q pc lv (.int y :: .int x :: st) M :=
  z_go2 (fun ho => by exact z_ot (z_ot ho)) (fun hx hb k1 k2 => by exact lv_icmp_ge hx hb dg ht k1 k2) k1 k2
theorem z_if_gt {x : Int32} {off : Int} {tgt : Nat} (dg : decode Y.2.1 pc = .ok (.ifCond .gt off, 3)) (ht : (pc : Int) + off = (tgt : Int)) (k1 : 0 < x → z_Ex w Y d Q tgt lv st M) (k2 : ¬ 0 < x → z_Ex w Y d Q (pc + 3) lv st M) : z_Ex w Y d Q pc lv (.int x :: st) M :=
  z_go2 (fun ho => by exact z_ot ho) (fun hx hb k1 k2 => by exact lv_if_gt hx hb dg ht k1 k2) k1 k2
theorem z_icmp_gt {x y : Int32} {off : Int} {tgt : Nat} (dg : decode Y.2.1 pc = .ok (.if_icmp .gt off, 3)) (ht : (pc : Int) + off = (tgt : Int)) (k1 : y < x → z_Ex w Y d Q tgt lv st M) (k2 : ¬ y < x → z_Ex w Y d Q (pc + 3) lv st M) : z_Ex w Y d Q pc lv (.int y :: .int x :: st) M :=
  z_go2 (fun ho => by exact z_ot (z_ot ho)) (fun hx hb k1 k2 => by exact lv_icmp_gt hx hb dg ht k1 k2) k1 k2
theorem z_if_le {x : Int32} {off : Int} {tgt : Nat} (dg : decode Y.2.1 pc = .ok (.ifCond .le off, 3)) (ht : (pc : Int) + off = (tgt : Int)) (k1 : x ≤ 0 → z_Ex w Y d Q tgt lv st M) (k2 : ¬ x ≤ 0 → z_Ex w Y d Q (pc + 3) lv st M) : z_Ex w Y d Q pc lv (.int x :: st) M :=
  z_go2 (fun ho => by exact z_ot ho) (fun hx hb k1 k2 => by exact lv_if_le hx hb dg ht k1 k2) k1 k2
theorem z_icmp_le {x y : Int32} {off : Int} {tgt : Nat} (dg : decode Y.2.1 pc = .ok (.if_icmp .le off, 3)) (ht : (pc : Int) + off = (tgt : Int)) (k1 : x ≤ y → z_Ex w Y d Q tgt lv st M) (k2 : ¬ x ≤ y → z_Ex w Y d Q (pc + 3) lv st M) : z_Ex w Y d Q pc lv (.int y :: .int x :: st) M :=
  z_go2 (fun ho => by exact z_ot (z_ot ho)) (fun hx hb k1 k2 => by exact lv_icmp_le hx hb dg ht k1 k2) k1 k2
theorem z_goto {off : Int} {tgt : Nat} (dg : decode Y.2.1 pc = .ok (.goto off, 3)) (ht : (pc : Int) + off = (tgt : Int)) (k : z_Ex w Y d Q tgt lv st M) : z_Ex w Y d Q pc lv st M :=
  z_go0 (fun ho hq => by exact ho) (fun hx hb hown hW hl k => by exact lv_goto hx hb dg ht k) k
theorem z_ifnonnull {i : Nat} {off : Int} {tgt : Nat} (dg : decode Y.2.1 pc = .ok (.ifnonnull off, 3)) (ht : (pc : Int) + off = (tgt : Int)) (k : z_Ex w Y d Q tgt lv st M) : z_Ex w Y d Q pc lv (.ref i :: st) M :=
  z_go0 (fun ho hq => by exact z_ot ho) (fun hx hb hown hW hl k => by exact lv_ifnonnull hx hb dg ht k) k
theorem z_ifnull {i : Nat} {off : Int} (dg : decode Y.2.1 pc = .ok (.ifnull off, 3)) (k : z_Ex w Y d Q (pc + 3) lv st M) : z_Ex w Y d Q pc lv (.ref i :: st) M :=
  z_go0 (fun ho hq => by exact z_ot ho) (fun hx hb hown hW hl k => by exact lv_ifnull hx hb dg k) k
theorem z_ifnullN {off : Int} {tgt : Nat} (dg : decode Y.2.1 pc = .ok (.ifnull off, 3)) (ht : (pc : Int) + off = (tgt : Int)) (k : z_Ex w Y d Q tgt lv st M) : z_Ex w Y d Q pc lv (.null :: st) M :=
  z_go0 (fun ho hq => by exact z_ot ho) (fun hx hb hown hW hl k => by exact lv_ifnullN hx hb dg ht k) k
theorem z_ifnonnullN {off : Int} (dg : decode Y.2.1 pc = .ok (.ifnonnull off, 3)) (k : z_Ex w Y d Q (pc + 3) lv st M) : z_Ex w Y d Q pc lv (.null :: st) M :=
  z_go0 (fun ho hq => by exact z_ot ho) (fun hx hb hown hW hl k => by exact lv_ifnonnullN hx hb dg k) k
theorem z_tableOut {dflt lo hi : Int} {offs : Array Int} {len tgt : Nat} {x : Int32} (dg : decode Y.2.1 pc = .ok (.tableswitch dflt lo hi offs, len)) (h : x.toInt < lo ∨ hi < x.toInt) (ht : (pc : Int) + dflt = (tgt : Int)) (k : z_Ex w Y d Q tgt lv st M) : z_Ex w Y d Q pc lv (.int x :: st) M :=
  z_go0 (fun ho hq => by exact z_ot ho) (fun hx hb hown hW hl k => by exact lv_tableOut hx hb dg h ht k) k
theorem z_tableIn {dflt lo hi off : Int} {offs : Array Int} {len tgt : Nat} {x : Int32} (dg : decode Y.2.1 pc = .ok (.tableswitch dflt lo hi offs, len)) (h1 : ¬ x.toInt < lo) (h2 : ¬ hi < x.toInt) (h3 : offs[(x.toInt - lo).toNat]? = some off) (ht : (pc : Int) + off = (tgt : Int)) (k : z_Ex w Y d Q tgt lv st M) : z_Ex w Y d Q pc lv (.int x :: st) M :=
  z_go0 (fun ho hq => by exact z_ot ho) (fun hx hb hown hW hl k => by exact lv_tableIn hx hb dg h1 h2 h3 ht k) k
theorem z_lookup {dflt off : Int} {ps : Array (Int × Int)} {len tgt : Nat} {x : Int32} (dg : decode Y.2.1 pc = .ok (.lookupswitch dflt ps, len)) (hp : (ps.toList.zip (ps.toList.drop 1)).all (fun (a, next) => a.1 < next.1) = true) (h3 : Op.lookupswitch.offset ps.toList dflt x.toInt = off) (ht : (pc : Int) + off = (tgt : Int)) (k : z_Ex w Y d Q tgt lv st M) : z_Ex w Y d Q pc lv (.int x :: st) M :=
  z_go0 (fun ho hq => by exact z_ot ho) (fun hx hb hown hW hl k => by exact lv_lookup hx hb dg hp h3 ht k) k
end ZR
