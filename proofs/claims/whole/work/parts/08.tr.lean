/-! Straight pieces of code as predicates: a piece's predicate holds => z_Ex holds at its start. K: what is owed behind an instruction (by pc, locals, stack, heap). -/
abbrev z_KK : Type := Nat → List (Nat × Value) → List Value → z_M → Prop
abbrev z_T : Type := (z_O → z_M → Prop) → z_KK → List (Nat × Value) → List Value → z_M → Prop
/-- the transformer t is right for the instruction at pc of Y -/
def z_S (w : z_W) (Y : z_Y) (pc : Nat) (t : z_T) : Prop := ∀ (d : Nat) (Q : z_O → z_M → Prop) (K : z_KK), (∀ pc' lv st M, K pc' lv st M → z_Ex w Y d Q pc' lv st M) → ∀ lv st M, t Q K lv st M → z_Ex w Y d Q pc lv st M
section ZI
variable {w : z_W} {Y : z_Y} {pc : Nat}
def zi_iconst (v : Int32) (nx : Nat) : z_T := fun Q K lv st M => K nx lv (.int v :: st) M
theorem zs_iconst {v : Int32} {n : Int} (dg : decode Y.2.1 pc = .ok (.iconst n, 1)) (hv : Int32.ofInt n = v) : z_S w Y pc (zi_iconst v (pc + 1)) := by
  rintro d Q K hK lv st M h
  exact z_iconst dg hv (hK _ _ _ _ h)
def zi_bipush (v : Int32) (nx : Nat) : z_T := fun Q K lv st M => K nx lv (.int v :: st) M
theorem zs_bipush {v : Int32} {n : Int} (dg : decode Y.2.1 pc = .ok (.bipush n, 2)) (hv : (Int8.ofInt n).toInt32 = v) : z_S w Y pc (zi_bipush v (pc + 2)) := by
  rintro d Q K hK lv st M h
  exact z_bipush dg hv (hK _ _ _ _ h)
def zi_sipush (v : Int32) (nx : Nat) : z_T := fun Q K lv st M => K nx lv (.int v :: st) M
theorem zs_sipush {v : Int32} {n : Int} (dg : decode Y.2.1 pc = .ok (.sipush n, 3)) (hv : (Int16.ofInt n).toInt32 = v) : z_S w Y pc (zi_sipush v (pc + 3)) := by
  rintro d Q K hK lv st M h
  exact z_sipush dg hv (hK _ _ _ _ h)
def zi_lconst (v : Int64) (nx : Nat) : z_T := fun Q K lv st M => K nx lv (.long v :: st) M
theorem zs_lconst {v : Int64} {n : Fin 2} (dg : decode Y.2.1 pc = .ok (.lconst n, 1)) (hv : Int64.ofNat (n : Nat) = v) : z_S w Y pc (zi_lconst v (pc + 1)) := by
  rintro d Q K hK lv st M h
  exact z_lconst dg hv (hK _ _ _ _ h)
def zi_null  (nx : Nat) : z_T := fun Q K lv st M => K nx lv (.null :: st) M
theorem zs_null  (dg : decode Y.2.1 pc = .ok (.aconst_null, 1)) : z_S w Y pc (zi_null  (pc + 1)) := by
  rintro d Q K hK lv st M h
  exact z_null dg (hK _ _ _ _ h)
def zi_iload (i : Nat) (nx : Nat) : z_T := fun Q K lv st M => ∃ x : Int32, z_lk lv i = some (.int x) ∧ K nx lv (.int x :: st) M
theorem zs_iload {i : Nat} (dg : decode Y.2.1 pc = .ok (.iload i, 2)) : z_S w Y pc (zi_iload i (pc + 2)) := by
  rintro d Q K hK lv st M ⟨x, h1, h⟩
  exact z_iload dg h1 (hK _ _ _ _ h)
theorem zs_iload_n {i : Nat} {k9 : Fin 4} (dg : decode Y.2.1 pc = .ok (.iload_n k9, 1)) (hi : (k9 : Nat) = i) : z_S w Y pc (zi_iload i (pc + 1)) := by
  rintro d Q K hK lv st M ⟨x, h1, h⟩
  exact z_iload_n dg hi h1 (hK _ _ _ _ h)
def zi_istore (i : Nat) (nx : Nat) : z_T := fun Q K lv st M => ∃ (x : Int32) (r : List Value), st = .int x :: r ∧ K nx (z_s1 lv i (.int x)) r M
theorem zs_istore {i : Nat} (dg : decode Y.2.1 pc = .ok (.istore i, 2)) (hn : i < Y.2.2.1) : z_S w Y pc (zi_istore i (pc + 2)) := by
  rintro d Q K hK lv st M ⟨x, r, rfl, h⟩
  exact z_istore dg hn rfl (hK _ _ _ _ h)
theorem zs_istore_n {i : Nat} {k9 : Fin 4} (dg : decode Y.2.1 pc = .ok (.istore_n k9, 1)) (hi : (k9 : Nat) = i) (hn : i < Y.2.2.1) : z_S w Y pc (zi_istore i (pc + 1)) := by
  rintro d Q K hK lv st M ⟨x, r, rfl, h⟩
  exact z_istore_n dg hi hn rfl (hK _ _ _ _ h)
def zi_lload (i : Nat) (nx : Nat) : z_T := fun Q K lv st M => ∃ x : Int64, z_lk lv i = some (.long x) ∧ K nx lv (.long x :: st) M
theorem zs_lload {i : Nat} (dg : decode Y.2.1 pc = .ok (.lload i, 2)) : z_S w Y pc (zi_lload i (pc + 2)) := by
  rintro d Q K hK lv st M ⟨x, h1, h⟩
  exact z_lload dg h1 (hK _ _ _ _ h)
theorem zs_lload_n {i : Nat} {k9 : Fin 4} (dg : decode Y.2.1 pc = .ok (.lload_n k9, 1)) (hi : (k9 : Nat) = i) : z_S w Y pc (zi_lload i (pc + 1)) := by
  rintro d Q K hK lv st M ⟨x, h1, h⟩
  exact z_lload_n dg hi h1 (hK _ _ _ _ h)
def zi_lstore (i : Nat) (nx : Nat) : z_T := fun Q K lv st M => ∃ (x : Int64) (r : List Value), st = .long x :: r ∧ K nx (z_s2 lv i (.long x)) r M
theorem zs_lstore {i : Nat} (dg : decode Y.2.1 pc = .ok (.lstore i, 2)) (hn : i + 1 < Y.2.2.1) : z_S w Y pc (zi_lstore i (pc + 2)) := by
  rintro d Q K hK lv st M ⟨x, r, rfl, h⟩
  exact z_lstore dg hn rfl (hK _ _ _ _ h)
theorem zs_lstore_n {i : Nat} {k9 : Fin 4} (dg : decode Y.2.1 pc = .ok (.lstore_n k9, 1)) (hi : (k9 : Nat) = i) (hn : i + 1 < Y.2.2.1) : z_S w Y pc (zi_lstore i (pc + 1)) := by
  rintro d Q K hK lv st M ⟨x, r, rfl, h⟩
  exact z_lstore_n dg hi hn rfl (hK _ _ _ _ h)
def zi_aload (i : Nat) (nx : Nat) : z_T := fun Q K lv st M => ∃ x : Nat, z_lk lv i = some (.ref x) ∧ K nx lv (.ref x :: st) M
theorem zs_aload {i : Nat} (dg : decode Y.2.1 pc = .ok (.aload i, 2)) : z_S w Y pc (zi_aload i (pc + 2)) := by
  rintro d Q K hK lv st M ⟨x, h1, h⟩
  exact z_aload dg h1 (hK _ _ _ _ h)
theorem zs_aload_n {i : Nat} {k9 : Fin 4} (dg : decode Y.2.1 pc = .ok (.aload_n k9, 1)) (hi : (k9 : Nat) = i) : z_S w Y pc (zi_aload i (pc + 1)) := by
  rintro d Q K hK lv st M ⟨x, h1, h⟩
  exact z_aload_n dg hi h1 (hK _ _ _ _ h)
def zi_astore (i : Nat) (nx : Nat) : z_T := fun Q K lv st M => ∃ (x : Nat) (r : List Value), st = .ref x :: r ∧ K nx (z_s1 lv i (.ref x)) r M
theorem zs_astore {i : Nat} (dg : decode Y.2.1 pc = .ok (.astore i, 2)) (hn : i < Y.2.2.1) : z_S w Y pc (zi_astore i (pc + 2)) := by
  rintro d Q K hK lv st M ⟨x, r, rfl, h⟩
  exact z_astore dg hn rfl (hK _ _ _ _ h)
theorem zs_astore_n {i : Nat} {k9 : Fin 4} (dg : decode Y.2.1 pc = .ok (.astore_n k9, 1)) (hi : (k9 : Nat) = i) (hn : i < Y.2.2.1) : z_S w Y pc (zi_astore i (pc + 1)) := by
  rintro d Q K hK lv st M ⟨x, r, rfl, h⟩
  exact z_astore_n dg hi hn rfl (hK _ _ _ _ h)
def zi_iadd  (nx : Nat) : z_T := fun Q K lv st M => ∃ (x y : Int32) (r : List Value), st = .int y :: .int x :: r ∧ K nx lv (.int (x + y) :: r) M
theorem zs_iadd  (dg : decode Y.2.1 pc = .ok (.iadd, 1)) : z_S w Y pc (zi_iadd  (pc + 1)) := by
  rintro d Q K hK lv st M ⟨x, y, r, rfl, h⟩
  exact z_iadd dg (hK _ _ _ _ h)
def zi_isub  (nx : Nat) : z_T := fun Q K lv st M => ∃ (x y : Int32) (r : List Value), st = .int y :: .int x :: r ∧ K nx lv (.int (x - y) :: r) M
theorem zs_isub  (dg : decode Y.2.1 pc = .ok (.isub, 1)) : z_S w Y pc (zi_isub  (pc + 1)) := by
  rintro d Q K hK lv st M ⟨x, y, r, rfl, h⟩
  exact z_isub dg (hK _ _ _ _ h)
def zi_imul  (nx : Nat) : z_T := fun Q K lv st M => ∃ (x y : Int32) (r : List Value), st = .int y :: .int x :: r ∧ K nx lv (.int (x * y) :: r) M
theorem zs_imul  (dg : decode Y.2.1 pc = .ok (.imul, 1)) : z_S w Y pc (zi_imul  (pc + 1)) := by
  rintro d Q K hK lv st M ⟨x, y, r, rfl, h⟩
  exact z_imul dg (hK _ _ _ _ h)
def zi_iand  (nx : Nat) : z_T := fun Q K lv st M => ∃ (x y : Int32) (r : List Value), st = .int y :: .int x :: r ∧ K nx lv (.int (x &&& y) :: r) M
theorem zs_iand  (dg : decode Y.2.1 pc = .ok (.iand, 1)) : z_S w Y pc (zi_iand  (pc + 1)) := by
  rintro d Q K hK lv st M ⟨x, y, r, rfl, h⟩
  exact z_iand dg (hK _ _ _ _ h)
def zi_ior  (nx : Nat) : z_T := fun Q K lv st M => ∃ (x y : Int32) (r : List Value), st = .int y :: .int x :: r ∧ K nx lv (.int (x ||| y) :: r) M
theorem zs_ior  (dg : decode Y.2.1 pc = .ok (.ior, 1)) : z_S w Y pc (zi_ior  (pc + 1)) := by
  rintro d Q K hK lv st M ⟨x, y, r, rfl, h⟩
  exact z_ior dg (hK _ _ _ _ h)
def zi_ixor  (nx : Nat) : z_T := fun Q K lv st M => ∃ (x y : Int32) (r : List Value), st = .int y :: .int x :: r ∧ K nx lv (.int (x ^^^ y) :: r) M
theorem zs_ixor  (dg : decode Y.2.1 pc = .ok (.ixor, 1)) : z_S w Y pc (zi_ixor  (pc + 1)) := by
  rintro d Q K hK lv st M ⟨x, y, r, rfl, h⟩
  exact z_ixor dg (hK _ _ _ _ h)
def zi_ishl  (nx : Nat) : z_T := fun Q K lv st M => ∃ (x y : Int32) (r : List Value), st = .int y :: .int x :: r ∧ K nx lv (.int (x <<< (y &&& 31)) :: r) M
theorem zs_ishl  (dg : decode Y.2.1 pc = .ok (.ishl, 1)) : z_S w Y pc (zi_ishl  (pc + 1)) := by
  rintro d Q K hK lv st M ⟨x, y, r, rfl, h⟩
  exact z_ishl dg (hK _ _ _ _ h)
def zi_ishr  (nx : Nat) : z_T := fun Q K lv st M => ∃ (x y : Int32) (r : List Value), st = .int y :: .int x :: r ∧ K nx lv (.int (x >>> (y &&& 31)) :: r) M
theorem zs_ishr  (dg : decode Y.2.1 pc = .ok (.ishr, 1)) : z_S w Y pc (zi_ishr  (pc + 1)) := by
  rintro d Q K hK lv st M ⟨x, y, r, rfl, h⟩
  exact z_ishr dg (hK _ _ _ _ h)
def zi_idiv  (nx : Nat) : z_T := fun Q K lv st M => ∃ (x y : Int32) (r : List Value), st = .int y :: .int x :: r ∧ ¬ y = 0 ∧ K nx lv (.int (x / y) :: r) M
theorem zs_idiv  (dg : decode Y.2.1 pc = .ok (.idiv, 1)) : z_S w Y pc (zi_idiv  (pc + 1)) := by
  rintro d Q K hK lv st M ⟨x, y, r, rfl, h9, h⟩
  exact z_idiv dg h9 (hK _ _ _ _ h)
def zi_irem  (nx : Nat) : z_T := fun Q K lv st M => ∃ (x y : Int32) (r : List Value), st = .int y :: .int x :: r ∧ ¬ y = 0 ∧ K nx lv (.int (x - x / y * y) :: r) M
theorem zs_irem  (dg : decode Y.2.1 pc = .ok (.irem, 1)) : z_S w Y pc (zi_irem  (pc + 1)) := by
  rintro d Q K hK lv st M ⟨x, y, r, rfl, h9, h⟩
  exact z_irem dg h9 (hK _ _ _ _ h)
def zi_ladd  (nx : Nat) : z_T := fun Q K lv st M => ∃ (x y : Int64) (r : List Value), st = .long y :: .long x :: r ∧ K nx lv (.long (x + y) :: r) M
theorem zs_ladd  (dg : decode Y.2.1 pc = .ok (.ladd, 1)) : z_S w Y pc (zi_ladd  (pc + 1)) := by
  rintro d Q K hK lv st M ⟨x, y, r, rfl, h⟩
  exact z_ladd dg (hK _ _ _ _ h)
def zi_lsub  (nx : Nat) : z_T := fun Q K lv st M => ∃ (x y : Int64) (r : List Value), st = .long y :: .long x :: r ∧ K nx lv (.long (x - y) :: r) M
theorem zs_lsub  (dg : decode Y.2.1 pc = .ok (.lsub, 1)) : z_S w Y pc (zi_lsub  (pc + 1)) := by
  rintro d Q K hK lv st M ⟨x, y, r, rfl, h⟩
  exact z_lsub dg (hK _ _ _ _ h)
def zi_land  (nx : Nat) : z_T := fun Q K lv st M => ∃ (x y : Int64) (r : List Value), st = .long y :: .long x :: r ∧ K nx lv (.long (x &&& y) :: r) M
theorem zs_land  (dg : decode Y.2.1 pc = .ok (.land, 1)) : z_S w Y pc (zi_land  (pc + 1)) := by
  rintro d Q K hK lv st M ⟨x, y, r, rfl, h⟩
  exact z_land dg (hK _ _ _ _ h)
def zi_lor  (nx : Nat) : z_T := fun Q K lv st M => ∃ (x y : Int64) (r : List Value), st = .long y :: .long x :: r ∧ K nx lv (.long (x ||| y) :: r) M
theorem zs_lor  (dg : decode Y.2.1 pc = .ok (.lor, 1)) : z_S w Y pc (zi_lor  (pc + 1)) := by
  rintro d Q K hK lv st M ⟨x, y, r, rfl, h⟩
  exact z_lor dg (hK _ _ _ _ h)
def zi_lxor  (nx : Nat) : z_T := fun Q K lv st M => ∃ (x y : Int64) (r : List Value), st = .long y :: .long x :: r ∧ K nx lv (.long (x ^^^ y) :: r) M
theorem zs_lxor  (dg : decode Y.2.1 pc = .ok (.lxor, 1)) : z_S w Y pc (zi_lxor  (pc + 1)) := by
  rintro d Q K hK lv st M ⟨x, y, r, rfl, h⟩
  exact z_lxor dg (hK _ _ _ _ h)
def zi_i2l  (nx : Nat) : z_T := fun Q K lv st M => ∃ (x : Int32) (r : List Value), st = .int x :: r ∧ K nx lv (.long (x.toInt64) :: r) M
theorem zs_i2l  (dg : decode Y.2.1 pc = .ok (.i2l, 1)) : z_S w Y pc (zi_i2l  (pc + 1)) := by
  rintro d Q K hK lv st M ⟨x, r, rfl, h⟩
  exact z_i2l dg (hK _ _ _ _ h)
def zi_l2i  (nx : Nat) : z_T := fun Q K lv st M => ∃ (x : Int64) (r : List Value), st = .long x :: r ∧ K nx lv (.int (x.toInt32) :: r) M
theorem zs_l2i  (dg : decode Y.2.1 pc = .ok (.l2i, 1)) : z_S w Y pc (zi_l2i  (pc + 1)) := by
  rintro d Q K hK lv st M ⟨x, r, rfl, h⟩
  exact z_l2i dg (hK _ _ _ _ h)
def zi_i2b  (nx : Nat) : z_T := fun Q K lv st M => ∃ (x : Int32) (r : List Value), st = .int x :: r ∧ K nx lv (.int (x.toInt8.toInt32) :: r) M
theorem zs_i2b  (dg : decode Y.2.1 pc = .ok (.i2b, 1)) : z_S w Y pc (zi_i2b  (pc + 1)) := by
  rintro d Q K hK lv st M ⟨x, r, rfl, h⟩
  exact z_i2b dg (hK _ _ _ _ h)
def zi_i2s  (nx : Nat) : z_T := fun Q K lv st M => ∃ (x : Int32) (r : List Value), st = .int x :: r ∧ K nx lv (.int (x.toInt16.toInt32) :: r) M
theorem zs_i2s  (dg : decode Y.2.1 pc = .ok (.i2s, 1)) : z_S w Y pc (zi_i2s  (pc + 1)) := by
  rintro d Q K hK lv st M ⟨x, r, rfl, h⟩
  exact z_i2s dg (hK _ _ _ _ h)
def zi_lshl  (nx : Nat) : z_T := fun Q K lv st M => ∃ (x : Int64) (y : Int32) (r : List Value), st = .int y :: .long x :: r ∧ K nx lv (.long (x <<< (y.toInt64 &&& 63)) :: r) M
theorem zs_lshl  (dg : decode Y.2.1 pc = .ok (.lshl, 1)) : z_S w Y pc (zi_lshl  (pc + 1)) := by
  rintro d Q K hK lv st M ⟨x, y, r, rfl, h⟩
  exact z_lshl dg (hK _ _ _ _ h)
def zi_lshr  (nx : Nat) : z_T := fun Q K lv st M => ∃ (x : Int64) (y : Int32) (r : List Value), st = .int y :: .long x :: r ∧ K nx lv (.long (x >>> (y.toInt64 &&& 63)) :: r) M
theorem zs_lshr  (dg : decode Y.2.1 pc = .ok (.lshr, 1)) : z_S w Y pc (zi_lshr  (pc + 1)) := by
  rintro d Q K hK lv st M ⟨x, y, r, rfl, h⟩
  exact z_lshr dg (hK _ _ _ _ h)
def zi_lcmp  (nx : Nat) : z_T := fun Q K lv st M => ∃ (x y : Int64) (r : List Value), st = .long y :: .long x :: r ∧ K nx lv (.int (lg_cmp x y) :: r) M
theorem zs_lcmp  (dg : decode Y.2.1 pc = .ok (.lcmp, 1)) : z_S w Y pc (zi_lcmp  (pc + 1)) := by
  rintro d Q K hK lv st M ⟨x, y, r, rfl, h⟩
  exact z_lcmp dg (hK _ _ _ _ h)
def zi_dup  (nx : Nat) : z_T := fun Q K lv st M => ∃ (u : Value) (r : List Value), st = u :: r ∧ u.category = 1 ∧ K nx lv (u :: u :: r) M
theorem zs_dup  (dg : decode Y.2.1 pc = .ok (.dup, 1)) : z_S w Y pc (zi_dup  (pc + 1)) := by
  rintro d Q K hK lv st M ⟨u, r, rfl, h1, h⟩
  exact z_dup dg h1 (hK _ _ _ _ h)
def zi_pop  (nx : Nat) : z_T := fun Q K lv st M => ∃ (u : Value) (r : List Value), st = u :: r ∧ u.category = 1 ∧ K nx lv r M
theorem zs_pop  (dg : decode Y.2.1 pc = .ok (.pop, 1)) : z_S w Y pc (zi_pop  (pc + 1)) := by
  rintro d Q K hK lv st M ⟨u, r, rfl, h1, h⟩
  exact z_pop dg h1 (hK _ _ _ _ h)
def zi_dup_x1  (nx : Nat) : z_T := fun Q K lv st M => ∃ (u v : Value) (r : List Value), st = u :: v :: r ∧ u.category = 1 ∧ v.category = 1 ∧ K nx lv (u :: v :: u :: r) M
theorem zs_dup_x1  (dg : decode Y.2.1 pc = .ok (.dup_x1, 1)) : z_S w Y pc (zi_dup_x1  (pc + 1)) := by
  rintro d Q K hK lv st M ⟨u, v, r, rfl, h1, h2, h⟩
  exact z_dup_x1 dg h1 h2 (hK _ _ _ _ h)
def zi_dup_x2  (nx : Nat) : z_T := fun Q K lv st M => ∃ (u v t : Value) (r : List Value), st = u :: v :: t :: r ∧ u.category = 1 ∧ v.category = 1 ∧ t.category = 1 ∧ K nx lv (u :: v :: t :: u :: r) M
theorem zs_dup_x2  (dg : decode Y.2.1 pc = .ok (.dup_x2, 1)) : z_S w Y pc (zi_dup_x2  (pc + 1)) := by
  rintro d Q K hK lv st M ⟨u, v, t, r, rfl, h1, h2, h3, h⟩
  exact z_dup_x2 dg h1 h2 h3 (hK _ _ _ _ h)
def zi_dup2  (nx : Nat) : z_T := fun Q K lv st M => ∃ (u v : Value) (r : List Value), st = u :: v :: r ∧ u.category = 1 ∧ v.category = 1 ∧ K nx lv (u :: v :: u :: v :: r) M
theorem zs_dup2  (dg : decode Y.2.1 pc = .ok (.dup2, 1)) : z_S w Y pc (zi_dup2  (pc + 1)) := by
  rintro d Q K hK lv st M ⟨u, v, r, rfl, h1, h2, h⟩
  exact z_dup2 dg h1 h2 (hK _ _ _ _ h)
def zi_ldc2 (v : Int64) (nx : Nat) : z_T := fun Q K lv st M => K nx lv (.long v :: st) M
theorem zs_ldc2 {v : Int64} {idx : Nat} (dg : decode Y.2.1 pc = .ok (.ldc2_w idx, 3)) (hc : z_has w (.constantLong Y.1.cls idx v)) : z_S w Y pc (zi_ldc2 v (pc + 3)) := by
  rintro d Q K hK lv st M h
  exact z_ldc2 dg hc (hK _ _ _ _ h)
def zi_iinc (i : Nat) (c : Int32) (nx : Nat) : z_T := fun Q K lv st M => ∃ x : Int32, z_lk lv i = some (.int x) ∧ K nx (z_s1 lv i (.int (x + c))) st M
theorem zs_iinc {i : Nat} {c : Int32} {n : Int} (dg : decode Y.2.1 pc = .ok (.iinc i n, 3)) (hn : i < Y.2.2.1) (hc : Int32.ofInt n = c) : z_S w Y pc (zi_iinc i c (pc + 3)) := by
  rintro d Q K hK lv st M ⟨x, h1, h⟩
  exact z_iinc dg h1 hn rfl (hK _ _ _ _ (by rw [hc]; exact h))
def zi_if_eq (tg nx : Nat) : z_T := fun Q K lv st M => ∃ (x : Int32) (r : List Value), st = .int x :: r ∧ (x = 0 → K tg lv r M) ∧ (¬ x = 0 → K nx lv r M)
theorem zs_if_eq {tg : Nat} {off : Int} (dg : decode Y.2.1 pc = .ok (.ifCond .eq off, 3)) (ht : (pc : Int) + off = (tg : Int)) : z_S w Y pc (zi_if_eq tg (pc + 3)) := by
  rintro d Q K hK lv st M ⟨x, r, rfl, h1, h2⟩
  exact z_if_eq dg ht (fun h => hK _ _ _ _ (h1 h)) (fun h => hK _ _ _ _ (h2 h))
def zi_icmp_eq (tg nx : Nat) : z_T := fun Q K lv st M => ∃ (x y : Int32) (r : List Value), st = .int y :: .int x :: r ∧ (x = y → K tg lv r M) ∧ (¬ x = y → K nx lv r M)
theorem zs_icmp_eq {tg : Nat} {off : Int} (dg : decode Y.2.1 pc = .ok (.if_icmp .eq off, 3)) (ht : (pc : Int) + off = (tg : Int)) : z_S w Y pc (zi_icmp_eq tg (pc + 3)) := by
  rintro d Q K hK lv st M ⟨x, y, r, rfl, h1, h2⟩
  exact z_icmp_eq dg ht (fun h => hK _ _ _ _ (h1 h)) (fun h => hK _ _ _ _ (h2 h))
def zi_if_ne (tg nx : Nat) : z_T := fun Q K lv st M => ∃ (x : Int32) (r : List Value), st = .int x :: r ∧ (¬ x = 0 → K tg lv r M) ∧ (x = 0 → K nx lv r M)
theorem zs_if_ne {tg : Nat} {off : Int} (dg : decode Y.2.1 pc = .ok (.ifCond .ne off, 3)) (ht : (pc : Int) + off = (tg : Int)) : z_S w Y pc (zi_if_ne tg (pc + 3)) := by
  rintro d Q K hK lv st M ⟨x, r, rfl, h1, h2⟩
  exact z_if_ne dg ht (fun h => hK _ _ _ _ (h1 h)) (fun h => hK _ _ _ _ (h2 h))
def zi_icmp_ne (tg nx : Nat) : z_T := fun Q K lv st M => ∃ (x y : Int32) (r : List Value), st = .int y :: .int x :: r ∧ (¬ x = y → K tg lv r M) ∧ (x = y → K nx lv r M)
theorem zs_icmp_ne {tg : Nat} {off : Int} (dg : decode Y.2.1 pc = .ok (.if_icmp .ne off, 3)) (ht : (pc : Int) + off = (tg : Int)) : z_S w Y pc (zi_icmp_ne tg (pc + 3)) := by
  rintro d Q K hK lv st M ⟨x, y, r, rfl, h1, h2⟩
  exact z_icmp_ne dg ht (fun h => hK _ _ _ _ (h1 h)) (fun h => hK _ _ _ _ (h2 h))
def zi_if_lt (tg nx : Nat) : z_T := fun Q K lv st M => ∃ (x : Int32) (r : List Value), st = .int x :: r ∧ (x < 0 → K tg lv r M) ∧ (¬ x < 0 → K nx lv r M)
theorem zs_if_lt {tg : Nat} {off : Int} (dg : decode Y.2.1 pc = .ok (.ifCond .lt off, 3)) (ht : (pc : Int) + off = (tg : Int)) : z_S w Y pc (zi_if_lt tg (pc + 3)) := by
  rintro d Q K hK lv st M ⟨x, r, rfl, h1, h2⟩
  exact z_if_lt dg ht (fun h => hK _ _ _ _ (h1 h)) (fun h => hK _ _ _ _ (h2 h))
def zi_icmp_lt (tg nx : Nat) : z_T := fun Q K lv st M => ∃ (x y : Int32) (r : List Value), st = .int y :: .int x :: r ∧ (x < y → K tg lv r M) ∧ (¬ x < y → K nx lv r M)
theorem zs_icmp_lt {tg : Nat} {off : Int} (dg : decode Y.2.1 pc = .ok (.if_icmp .lt off, 3)) (ht : (pc : Int) + off = (tg : Int)) : z_S w Y pc (zi_icmp_lt tg (pc + 3)) := by
  rintro d Q K hK lv st M ⟨x, y, r, rfl, h1, h2⟩
  exact z_icmp_lt dg ht (fun h => hK _ _ _ _ (h1 h)) (fun h => hK _ _ _ _ (h2 h))
def zi_if_ge (tg nx : Nat) : z_T := fun Q K lv st M => ∃ (x : Int32) (r : List Value), st = .int x :: r ∧ (0 ≤ x → K tg lv r M) ∧ (¬ 0 ≤ x → K nx lv r M)
theorem zs_if_ge {tg : Nat} {off : Int} (dg : decode Y.2.1 pc = .ok (.ifCond .ge off, 3)) (ht : (pc : Int) + off = (tg : Int)) : z_S w Y pc (zi_if_ge tg (pc + 3)) := by
  rintro d Q K hK lv st M ⟨x, r, rfl, h1, h2⟩
  exact z_if_ge dg ht (fun h => hK _ _ _ _ (h1 h)) (fun h => hK _ _ _ _ (h2 h))
def zi_icmp_ge (tg nx : Nat) : z_T := fun Q K lv st M => ∃ (x y : Int32) (r : List Value), st = .int y :: .int x :: r ∧ (y ≤ x → K tg lv r M) ∧ (¬ y ≤ x → K nx lv r M)
theorem zs_icmp_ge {tg : Nat} {off : Int} (dg : decode Y.2.1 pc = .ok (.if_icmp .ge off, 3)) (ht : (pc : Int) + off = (tg : Int)) : z_S w Y pc (zi_icmp_ge tg (pc + 3)) := by
  rintro d Q K hK lv st M ⟨x, y, r, rfl, h1, h2⟩
  exact z_icmp_ge dg ht (fun h => hK _ _ _ _ (h1 h)) (fun h => hK _ _ _ _ (h2 h))
def zi_if_gt (tg nx : Nat) : z_T := fun Q K lv st M => ∃ (x : Int32) (r : List Value), st = .int x :: r ∧ (0 < x → K tg lv r M) ∧ (¬ 0 < x → K nx lv r M)
theorem zs_if_gt {tg : Nat} {off : Int} (dg : decode Y.2.1 pc = .ok (.ifCond .gt off, 3)) (ht : (pc : Int) + off = (tg : Int)) : z_S w Y pc (zi_if_gt tg (pc + 3)) := by
  rintro d Q K hK lv st M ⟨x, r, rfl, h1, h2⟩
  exact z_if_gt dg ht (fun h => hK _ _ _ _ (h1 h)) (fun h => hK _ _ _ _ (h2 h))
def zi_icmp_gt (tg nx : Nat) : z_T := fun Q K lv st M => ∃ (x y : Int32) (r : List Value), st = .int y :: .int x :: r ∧ (y < x → K tg lv r M) ∧ (¬ y < x → K nx lv r M)
theorem zs_icmp_gt {tg : Nat} {off : Int} (dg : decode Y.2.1 pc = .ok (.if_icmp .gt off, 3)) (ht : (pc : Int) + off = (tg : Int)) : z_S w Y pc (zi_icmp_gt tg (pc + 3)) := by
  rintro d Q K hK lv st M ⟨x, y, r, rfl, h1, h2⟩
  exact z_icmp_gt dg ht (fun h => hK _ _ _ _ (h1 h)) (fun h => hK _ _ _ _ (h2 h))
def zi_if_le (tg nx : Nat) : z_T := fun Q K lv st M => ∃ (x : Int32) (r : List Value), st = .int x :: r ∧ (x ≤ 0 → K tg lv r M) ∧ (¬ x ≤ 0 → K nx lv r M)
theorem zs_if_le {tg : Nat} {off : Int} (dg : decode Y.2.1 pc = .ok (.ifCond .le off, 3)) (ht : (pc : Int) + off = (tg : Int)) : z_S w Y pc (zi_if_le tg (pc + 3)) := by
  rintro d Q K hK lv st M ⟨x, r, rfl, h1, h2⟩
  exact z_if_le dg ht (fun h => hK _ _ _ _ (h1 h)) (fun h => hK _ _ _ _ (h2 h))
def zi_icmp_le (tg nx : Nat) : z_T := fun Q K lv st M => ∃ (x y : Int32) (r : List Value), st = .int y :: .int x :: r ∧ (x ≤ y → K tg lv r M) ∧ (¬ x ≤ y → K nx lv r M)
theorem zs_icmp_le {tg : Nat} {off : Int} (dg : decode Y.2.1 pc = .ok (.if_icmp .le off, 3)) (ht : (pc : Int) + off = (tg : Int)) : z_S w Y pc (zi_icmp_le tg (pc + 3)) := by
  rintro d Q K hK lv st M ⟨x, y, r, rfl, h1, h2⟩
  exact z_icmp_le dg ht (fun h => hK _ _ _ _ (h1 h)) (fun h => hK _ _ _ _ (h2 h))
def zi_goto (tg : Nat) : z_T := fun Q K lv st M => K tg lv st M
theorem zs_goto {tg : Nat} {off : Int} (dg : decode Y.2.1 pc = .ok (.goto off, 3)) (ht : (pc : Int) + off = (tg : Int)) : z_S w Y pc (zi_goto tg) := by
  rintro d Q K hK lv st M h
  exact z_goto dg ht (hK _ _ _ _ h)
def zi_ifnull (tg nx : Nat) : z_T := fun Q K lv st M => (∃ r, st = .null :: r ∧ K tg lv r M) ∨ ∃ i r, st = .ref i :: r ∧ K nx lv r M
theorem zs_ifnull {tg : Nat} {off : Int} (dg : decode Y.2.1 pc = .ok (.ifnull off, 3)) (ht : (pc : Int) + off = (tg : Int)) : z_S w Y pc (zi_ifnull tg (pc + 3)) := by
  rintro d Q K hK lv st M (⟨r, rfl, h⟩ | ⟨i, r, rfl, h⟩)
  · exact z_ifnullN dg ht (hK _ _ _ _ h)
  · exact z_ifnull dg (hK _ _ _ _ h)
def zi_ifnonnull (tg nx : Nat) : z_T := fun Q K lv st M => (∃ r, st = .null :: r ∧ K nx lv r M) ∨ ∃ i r, st = .ref i :: r ∧ K tg lv r M
theorem zs_ifnonnull {tg : Nat} {off : Int} (dg : decode Y.2.1 pc = .ok (.ifnonnull off, 3)) (ht : (pc : Int) + off = (tg : Int)) : z_S w Y pc (zi_ifnonnull tg (pc + 3)) := by
  rintro d Q K hK lv st M (⟨r, rfl, h⟩ | ⟨i, r, rfl, h⟩)
  · exact z_ifnonnullN dg (hK _ _ _ _ h)
  · exact z_ifnonnull dg ht (hK _ _ _ _ h)
def zi_get (ci k nx : Nat) : z_T := fun Q K lv st M => ∃ (i : Nat) (r fs : List Value) (v : Value), st = .ref i :: r ∧ 2 ≤ i ∧ M.2.1 i = .inr (ci, fs) ∧ fs[k]? = some v ∧ K nx lv (v :: r) M
theorem zs_get {idx ci k : Nat} (hw : z_Wok w) (dg : decode Y.2.1 pc = .ok (.getfield idx, 3)) (hf : z_fld w Y.1.cls idx ci k) : z_S w Y pc (zi_get ci k (pc + 3)) := by
  rintro d Q K hK lv st ⟨n0, h, nc, ns⟩ ⟨i, r, fs, v, rfl, h2, h3, h4, h5⟩
  exact z_get hw dg hf h2 h3 h4 (hK _ _ _ _ h5)
def zi_put (ci k : Nat) (ty : FieldType) (nx : Nat) : z_T := fun Q K lv st M => ∃ (i : Nat) (v : Value) (r fs : List Value), st = v :: .ref i :: r ∧ 2 ≤ i ∧ M.2.1 i = .inr (ci, fs) ∧ k < fs.length ∧ (∀ al : Nat → Nat, narrow ty (z_v al v) = z_v al v ∧ fits ty (z_v al v) = true) ∧ K nx lv r (M.1, va_up M.2.1 i (.inr (ci, fs.set k v)), M.2.2)
theorem zs_put {idx ci k : Nat} {ty : FieldType} {fin : Bool} (hw : z_Wok w) (dg : decode Y.2.1 pc = .ok (.putfield idx, 3)) (hf : z_fldP w Y.1.cls idx ci k ty fin) (hfin : fin = true → Y.1.name = "<init>") : z_S w Y pc (zi_put ci k ty (pc + 3)) := by
  rintro d Q K hK lv st ⟨n0, h, nc, ns⟩ ⟨i, v, r, fs, rfl, h2, h3, h4, h5, h6⟩
  exact z_put hw dg hf hfin h2 h3 h4 h5 (hK _ _ _ _ h6)
def zi_iald (nx : Nat) : z_T := fun Q K lv st M => ∃ (i n : Nat) (j : Int32) (f : Nat → Int32) (r : List Value), st = .int j :: .ref i :: r ∧ M.2.1 i = .inl (0, n, .inl f) ∧ vp_in j n ∧ K nx lv (.int (f j.toNatClampNeg) :: r) M
theorem zs_iald (hw : z_Wok w) (dg : decode Y.2.1 pc = .ok (.iaload, 1)) : z_S w Y pc (zi_iald (pc + 1)) := by
  rintro d Q K hK lv st ⟨n0, h, nc, ns⟩ ⟨i, n, j, f, r, rfl, h3, h4, h5⟩
  by_cases h2 : i < 2
  · exact z_sld dg h2 h3 h4 (hK _ _ _ _ h5)
  · exact z_iald hw dg (by omega) h3 h4 (hK _ _ _ _ h5)
def zi_lald (nx : Nat) : z_T := fun Q K lv st M => ∃ (i n : Nat) (j : Int32) (f : Nat → Int64) (r : List Value), st = .int j :: .ref i :: r ∧ 2 ≤ i ∧ M.2.1 i = .inl (1, n, .inr (.inl f)) ∧ vp_in j n ∧ K nx lv (.long (f j.toNatClampNeg) :: r) M
theorem zs_lald (hw : z_Wok w) (dg : decode Y.2.1 pc = .ok (.laload, 1)) : z_S w Y pc (zi_lald (pc + 1)) := by
  rintro d Q K hK lv st ⟨n0, h, nc, ns⟩ ⟨i, n, j, f, r, rfl, h2, h3, h4, h5⟩
  exact z_lald hw dg h2 h3 h4 (hK _ _ _ _ h5)
def zi_zald (nx : Nat) : z_T := fun Q K lv st M => ∃ (i n : Nat) (j : Int32) (f : Nat → Int32) (r : List Value), st = .int j :: .ref i :: r ∧ 2 ≤ i ∧ M.2.1 i = .inl (2, n, .inl f) ∧ vp_in j n ∧ K nx lv (.int (f j.toNatClampNeg) :: r) M
theorem zs_zald (hw : z_Wok w) (dg : decode Y.2.1 pc = .ok (.baload, 1)) : z_S w Y pc (zi_zald (pc + 1)) := by
  rintro d Q K hK lv st ⟨n0, h, nc, ns⟩ ⟨i, n, j, f, r, rfl, h2, h3, h4, h5⟩
  exact z_zald hw dg h2 h3 h4 (hK _ _ _ _ h5)
def zi_iast (nx : Nat) : z_T := fun Q K lv st M => ∃ (i n : Nat) (j x : Int32) (f : Nat → Int32) (r : List Value), st = .int x :: .int j :: .ref i :: r ∧ 2 ≤ i ∧ M.2.1 i = .inl (0, n, .inl f) ∧ vp_in j n ∧ K nx lv r (M.1, va_up M.2.1 i (.inl (0, n, .inl (upd f j.toNatClampNeg x))), M.2.2)
theorem zs_iast (hw : z_Wok w) (dg : decode Y.2.1 pc = .ok (.iastore, 1)) : z_S w Y pc (zi_iast (pc + 1)) := by
  rintro d Q K hK lv st ⟨n0, h, nc, ns⟩ ⟨i, n, j, x, f, r, rfl, h2, h3, h4, h5⟩
  exact z_iast hw dg h2 h3 h4 (hK _ _ _ _ h5)
def zi_last (nx : Nat) : z_T := fun Q K lv st M => ∃ (i n : Nat) (j : Int32) (x : Int64) (f : Nat → Int64) (r : List Value), st = .long x :: .int j :: .ref i :: r ∧ 2 ≤ i ∧ M.2.1 i = .inl (1, n, .inr (.inl f)) ∧ vp_in j n ∧ K nx lv r (M.1, va_up M.2.1 i (.inl (1, n, .inr (.inl (vp_updL f j.toNatClampNeg x)))), M.2.2)
theorem zs_last (hw : z_Wok w) (dg : decode Y.2.1 pc = .ok (.lastore, 1)) : z_S w Y pc (zi_last (pc + 1)) := by
  rintro d Q K hK lv st ⟨n0, h, nc, ns⟩ ⟨i, n, j, x, f, r, rfl, h2, h3, h4, h5⟩
  exact z_last hw dg h2 h3 h4 (hK _ _ _ _ h5)
def zi_zast (nx : Nat) : z_T := fun Q K lv st M => ∃ (i n : Nat) (j x : Int32) (f : Nat → Int32) (r : List Value), st = .int x :: .int j :: .ref i :: r ∧ 2 ≤ i ∧ M.2.1 i = .inl (2, n, .inl f) ∧ vp_in j n ∧ K nx lv r (M.1, va_up M.2.1 i (.inl (2, n, .inl (upd f j.toNatClampNeg (vp_nar .boolean x)))), M.2.2)
theorem zs_zast (hw : z_Wok w) (dg : decode Y.2.1 pc = .ok (.bastore, 1)) : z_S w Y pc (zi_zast (pc + 1)) := by
  rintro d Q K hK lv st ⟨n0, h, nc, ns⟩ ⟨i, n, j, x, f, r, rfl, h2, h3, h4, h5⟩
  exact z_zast hw dg h2 h3 h4 (hK _ _ _ _ h5)
def zi_alen (nx : Nat) : z_T := fun Q K lv st M => ∃ (i t : Nat) (x : vp_A) (r : List Value), st = .ref i :: r ∧ 2 ≤ i ∧ M.2.1 i = .inl (t, x) ∧ t < 3 ∧ K nx lv (.int (Int32.ofNat x.1) :: r) M
theorem zs_alen (hw : z_Wok w) (dg : decode Y.2.1 pc = .ok (.arraylength, 1)) : z_S w Y pc (zi_alen (pc + 1)) := by
  rintro d Q K hK lv st ⟨n0, h, nc, ns⟩ ⟨i, t, x, r, rfl, h2, h3, h4, h5⟩
  exact z_alen hw dg h2 h3 h4 (hK _ _ _ _ h5)
def zi_slen (nx : Nat) : z_T := fun Q K lv st M => ∃ (i n : Nat) (f : Nat → Int32) (r : List Value), st = .ref i :: r ∧ i < 2 ∧ M.2.1 i = .inl (0, n, .inl f) ∧ K nx lv (.int (Int32.ofNat n) :: r) M
theorem zs_slen (dg : decode Y.2.1 pc = .ok (.arraylength, 1)) : z_S w Y pc (zi_slen (pc + 1)) := by
  rintro d Q K hK lv st ⟨n0, h, nc, ns⟩ ⟨i, n, f, r, rfl, h2, h3, h5⟩
  exact z_slen dg h2 h3 (hK _ _ _ _ h5)
def zi_iret : z_T := fun Q K lv st M => ∃ v : Int32, st = [.int v] ∧ Q (.inl (some (.int v))) M
theorem zs_iret (dg : decode Y.2.1 pc = .ok (.ireturn, 1)) (hr : Y.2.2.2.1 = some .int) : z_S w Y pc zi_iret := by
  rintro d Q K hK lv st M ⟨v, rfl, h⟩
  exact z_iret dg hr h
def zi_zret : z_T := fun Q K lv st M => ∃ v : Int32, st = [.int v] ∧ narrow .boolean (.int v) = .int v ∧ Q (.inl (some (.int v))) M
theorem zs_zret (dg : decode Y.2.1 pc = .ok (.ireturn, 1)) (hr : Y.2.2.2.1 = some .boolean) : z_S w Y pc zi_zret := by
  rintro d Q K hK lv st M ⟨v, rfl, h1, h⟩
  exact z_zret dg hr h1 h
def zi_lret : z_T := fun Q K lv st M => ∃ v : Int64, st = [.long v] ∧ Q (.inl (some (.long v))) M
theorem zs_lret (dg : decode Y.2.1 pc = .ok (.lreturn, 1)) (hr : Y.2.2.2.1 = some .long) : z_S w Y pc zi_lret := by
  rintro d Q K hK lv st M ⟨v, rfl, h⟩
  exact z_lret dg hr h
def zi_vret : z_T := fun Q K lv st M => st = [] ∧ Q (.inl none) M
theorem zs_vret (dg : decode Y.2.1 pc = .ok (.return_, 1)) (hr : Y.2.2.2.1 = none) : z_S w Y pc zi_vret := by
  rintro d Q K hK lv st M ⟨rfl, h⟩
  exact z_vret dg hr h
def zi_aret : z_T := fun Q K lv st M => ∃ v : Value, st = [v] ∧ (v = .null ∨ ∃ a, v = .ref a) ∧ Q (.inl (some v)) M
theorem zs_aret {rt : FieldType} (dg : decode Y.2.1 pc = .ok (.areturn, 1)) (hr : Y.2.2.2.1 = some rt) (hrt : (∃ n, rt = .object n) ∨ ∃ t, rt = .array t) : z_S w Y pc zi_aret := by
  rintro d Q K hK lv st M ⟨v, rfl, h1, h⟩
  exact z_aret dg hr hrt h1 h
def zi_newa (t b : Nat) (mk : Nat → vp_A) (nx : Nat) : z_T := fun Q K lv st M => ∃ (n : Int32) (r : List Value), st = .int n :: r ∧ ¬ n < 0 ∧ n.toNatClampNeg * b ≤ 536870912 ∧ 1 ≤ M.2.2.1 ∧ n.toNatClampNeg ≤ M.2.2.2 ∧
  K nx lv (.ref M.1 :: r) (M.1 + 1, va_up M.2.1 M.1 (.inl (t, mk n.toNatClampNeg)), M.2.2.1 - 1, M.2.2.2 - n.toNatClampNeg)
theorem zs_newi (hw : z_Wok w) (dg : decode Y.2.1 pc = .ok (.newarray .int, 2)) (harr : z_has w (.arrayClass .int)) : z_S w Y pc (zi_newa 0 4 (fun n => (n, .inl fun _ => 0)) (pc + 2)) := by
  rintro d Q K hK lv st ⟨n0, h, nc, ns⟩ ⟨n, r, rfl, h2, h3, h4, h5, h6⟩
  exact z_newa (t := 0) (ty := .int) (a0 := (n.toNatClampNeg, .inl fun _ => 0)) hw dg rfl rfl (fun U cA h9 => h9) harr (fun cA => rfl) h2 rfl h3 h4 h5 (hK _ _ _ _ h6)
theorem zs_newl (hw : z_Wok w) (dg : decode Y.2.1 pc = .ok (.newarray .long, 2)) (harr : z_has w (.arrayClass .long)) : z_S w Y pc (zi_newa 1 8 (fun n => (n, .inr (.inl fun _ => 0))) (pc + 2)) := by
  rintro d Q K hK lv st ⟨n0, h, nc, ns⟩ ⟨n, r, rfl, h2, h3, h4, h5, h6⟩
  exact z_newa (t := 1) (ty := .long) (a0 := (n.toNatClampNeg, .inr (.inl fun _ => 0))) hw dg rfl rfl (fun U cA h9 => h9) harr (fun cA => rfl) h2 rfl h3 h4 h5 (hK _ _ _ _ h6)
theorem zs_newz (hw : z_Wok w) (dg : decode Y.2.1 pc = .ok (.newarray .boolean, 2)) (harr : z_has w (.arrayClass .boolean)) : z_S w Y pc (zi_newa 2 1 (fun n => (n, .inl fun _ => 0)) (pc + 2)) := by
  rintro d Q K hK lv st ⟨n0, h, nc, ns⟩ ⟨n, r, rfl, h2, h3, h4, h5, h6⟩
  exact z_newa (t := 2) (ty := .boolean) (a0 := (n.toNatClampNeg, .inl fun _ => 0)) hw dg rfl rfl (fun U cA h9 => h9) harr (fun cA => rfl) h2 rfl h3 h4 h5 (hK _ _ _ _ h6)
def zi_new (ci N : Nat) (fs : List Value) (nx : Nat) : z_T := fun Q K lv st M => 1 ≤ M.2.2.1 ∧ N ≤ M.2.2.2 ∧ K nx lv (.ref M.1 :: st) (M.1 + 1, va_up M.2.1 M.1 (.inr (ci, fs)), M.2.2.1 - 1, M.2.2.2 - N)
theorem zs_new {idx ci N : Nat} {fs : List Value} (hw : z_Wok w) (dg : decode Y.2.1 pc = .ok (.new idx, 3)) (hf : z_newF w Y.1.cls idx ci N fs) : z_S w Y pc (zi_new ci N fs (pc + 3)) := by
  rintro d Q K hK lv st ⟨n0, h, nc, ns⟩ ⟨h2, h3, h6⟩
  exact z_new hw dg hf h2 h3 (hK _ _ _ _ h6)
/-- the pieces of a method, by their places; where it has none: what is owed is z_Ex itself -/
def z_wp (w : z_W) (Y : z_Y) (tb : Nat → Option z_T) (d : Nat) (Q : z_O → z_M → Prop) : Nat → z_KK
  | 0 => fun pc lv st M => z_Ex w Y d Q pc lv st M
  | n + 1 => fun pc lv st M => match tb pc with
    | none => z_Ex w Y d Q pc lv st M
    | some t => t Q (z_wp w Y tb d Q n) lv st M
def z_TB (w : z_W) (Y : z_Y) (tb : Nat → Option z_T) : Prop := ∀ pc t, tb pc = some t → z_S w Y pc t
theorem z_run {tb : Nat → Option z_T} (htb : z_TB w Y tb) {d : Nat} {Q : z_O → z_M → Prop} : ∀ (n : Nat) (pc : Nat) (lv : List (Nat × Value)) (st : List Value) (M : z_M), z_wp w Y tb d Q n pc lv st M → z_Ex w Y d Q pc lv st M
  | 0, _, _, _, _, h => h
  | n + 1, pc, lv, st, M, h => by
    unfold z_wp at h
    split at h
    · exact h
    · next t ht => exact htb pc t ht d Q (z_wp w Y tb d Q n) (fun pc' lv' st' M' h' => z_run htb n pc' lv' st' M' h') lv st M h
/-- one behind the other; the instruction's ways that go elsewhere are owed -/
def zq (nx : Nat) (t u : z_T) : z_T := fun Q K lv st M => t Q (fun p lv st M => if p = nx then u Q K lv st M else K p lv st M) lv st M
def zb (nx tg : Nat) (t u v : z_T) : z_T := fun Q K lv st M => t Q (fun p lv st M => if p = nx then u Q K lv st M else if p = tg then v Q K lv st M else K p lv st M) lv st M
theorem zq_S {nx : Nat} {t u : z_T} (h1 : z_S w Y pc t) (h2 : z_S w Y nx u) : z_S w Y pc (zq nx t u) := by
  intro d Q K hK lv st M h
  refine h1 d Q _ (fun p lv st M h9 => ?_) lv st M h
  split at h9
  next e => subst e; exact h2 d Q K hK lv st M h9
  next e => exact hK p lv st M h9
theorem zb_S {nx tg : Nat} {t u v : z_T} (h1 : z_S w Y pc t) (h2 : z_S w Y nx u) (h3 : z_S w Y tg v) : z_S w Y pc (zb nx tg t u v) := by
  intro d Q K hK lv st M h
  refine h1 d Q _ (fun p lv st M h9 => ?_) lv st M h
  split at h9
  next e => subst e; exact h2 d Q K hK lv st M h9
  next e =>
    split at h9
    next e => subst e; exact h3 d Q K hK lv st M h9
    next e => exact hK p lv st M h9
/-- a piece is gone through -/
theorem z_by {t : z_T} (h : z_S w Y pc t) {d : Nat} {Q : z_O → z_M → Prop} {lv : List (Nat × Value)} {st : List Value} {M : z_M} (k : t Q (z_Ex w Y d Q) lv st M) : z_Ex w Y d Q pc lv st M := h d Q _ (fun _ _ _ _ h => h) lv st M k
/-- the world: our classes; the words; no stack traces -/
def z_Wd (w : z_W) : Prop := z_Wok w ∧ (∀ c ∈ lw_tbl, z_gw c = true → z_has w c) ∧ w.1.stackTraces = false
theorem z_mem {c : Cond} (i : Nat) (h : tables_1[i]? = some c) : c ∈ lw_tbl := List.mem_append_right _ (List.mem_of_getElem? h)
theorem z_memP {c : Cond} (i : Nat) (h : (k2_sels lw_privs)[i]? = some c) : c ∈ lw_tbl := List.mem_append_left _ (List.mem_of_getElem? h)
end ZI
