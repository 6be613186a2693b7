/-! rows for going through pieces by simp -/
theorem z_lk_cons {i j : Nat} {v : Value} {l : List (Nat × Value)} : z_lk ((j, v) :: l) i = if j = i then some v else z_lk l i := by
  unfold z_lk
  by_cases h : j = i
  · simp [List.find?, h]
  · have h9 : (j == i) = false := by simpa using h
    simp [List.find?, h, h9]
def z_f1 (i : Nat) : List (Nat × Value) → List (Nat × Value)
  | [] => []
  | (j, u) :: l => if j = i then z_f1 i l else if j + 1 = i then (if u.category = 2 then z_f1 i l else (j, u) :: z_f1 i l) else (j, u) :: z_f1 i l
def z_f2 (i : Nat) : List (Nat × Value) → List (Nat × Value)
  | [] => []
  | (j, u) :: l => if j = i then z_f2 i l else if j = i + 1 then z_f2 i l else if j + 1 = i then (if u.category = 2 then z_f2 i l else (j, u) :: z_f2 i l) else (j, u) :: z_f2 i l
theorem z_s1_eq {i : Nat} {v : Value} : ∀ l : List (Nat × Value), z_s1 l i v = (i, v) :: z_f1 i l := by
  intro l
  unfold z_s1
  congr 1
  induction l with
  | nil => rfl
  | cons q l ih =>
    obtain ⟨j, u⟩ := q
    rw [List.filter_cons, ih]
    by_cases h1 : j = i
    · simp [z_f1, h1]
    · by_cases h2 : j + 1 = i
      · by_cases h3 : u.category = 2
        · simp [z_f1, h1, h2, h3]
        · simp [z_f1, h1, h2, h3]
      · simp [z_f1, h1, h2]
theorem z_s2_eq {i : Nat} {v : Value} : ∀ l : List (Nat × Value), z_s2 l i v = (i, v) :: z_f2 i l := by
  intro l
  unfold z_s2
  congr 1
  induction l with
  | nil => rfl
  | cons q l ih =>
    obtain ⟨j, u⟩ := q
    rw [List.filter_cons, ih]
    by_cases h1 : j = i
    · simp [z_f2, h1]
    · by_cases h4 : j = i + 1
      · simp [z_f2, h1, h4]
      · by_cases h2 : j + 1 = i
        · by_cases h3 : u.category = 2
          · simp [z_f2, h1, h2, h3, h4]
          · simp [z_f2, h1, h2, h3, h4]
        · simp [z_f2, h1, h2, h4]
theorem z_Cl_in {w : z_W} {Y : z_Y} {d : Nat} {Q : z_O → z_M → Prop} {M : z_M} {as : List Value} (lv : List (Nat × Value)) (hp : plainName Y.1.cls = true) (hn : (lg_sl as).length ≤ Y.2.2.1) (hl : lv_args 0 as = lv) (k : z_Ex w Y d Q 0 lv [] M) : z_Cl w Y d as M Q := by
  subst hl
  exact z_Cl_of hp hn k
theorem z_up_s {α : Type} {f : Nat → α} {i : Nat} {v : α} : va_up f i v i = v := by simp [va_up]
theorem z_up_n {α : Type} {f : Nat → α} {i j : Nat} {v : α} (h : j ≠ i) : va_up f i v j = f j := by simp [va_up, h]
theorem z_cat_i {x : Int32} : (Value.int x).category = 1 := rfl
theorem z_cat_l {x : Int64} : (Value.long x).category = 2 := rfl
theorem z_cat_r {x : Nat} : (Value.ref x).category = 1 := rfl
theorem z_cat_n : Value.null.category = 1 := rfl
theorem z_nb0 : narrow .boolean (.int 0) = .int 0 := by decide
theorem z_nb1 : narrow .boolean (.int 1) = .int 1 := by decide
/-- what a call of a method that answers r and leaves M' gives -/
abbrev z_is (r : z_O) (M' : z_M) : z_O → z_M → Prop := fun q M => q = r ∧ M = M'
theorem z_up_up {α : Type} {f : Nat → α} {i : Nat} {v u : α} : va_up (va_up f i v) i u = va_up f i u := by
  funext j
  by_cases h : j = i <;> simp [va_up, h]
theorem z_nfI {x : Int32} : (∀ al : Nat → Nat, narrow .int (z_v al (.int x)) = z_v al (.int x) ∧ fits .int (z_v al (.int x)) = true) ↔ True := iff_true_intro fun _ => ⟨rfl, rfl⟩
theorem z_nfZ0 : (∀ al : Nat → Nat, narrow .boolean (z_v al (.int 0)) = z_v al (.int 0) ∧ fits .boolean (z_v al (.int 0)) = true) ↔ True := iff_true_intro fun _ => ⟨z_nb0, (by decide : fits .boolean (.int 0) = true)⟩
theorem z_nfZ1 : (∀ al : Nat → Nat, narrow .boolean (z_v al (.int 1)) = z_v al (.int 1) ∧ fits .boolean (z_v al (.int 1)) = true) ↔ True := iff_true_intro fun _ => ⟨z_nb1, (by decide : fits .boolean (.int 1) = true)⟩
theorem z_nfO {C : String} {i : Nat} : (∀ al : Nat → Nat, narrow (.object C) (z_v al (.ref i)) = z_v al (.ref i) ∧ fits (.object C) (z_v al (.ref i)) = true) ↔ True := iff_true_intro fun _ => ⟨rfl, rfl⟩
theorem z_nfA {t : FieldType} {i : Nat} : (∀ al : Nat → Nat, narrow (.array t) (z_v al (.ref i)) = z_v al (.ref i) ∧ fits (.array t) (z_v al (.ref i)) = true) ↔ True := iff_true_intro fun _ => ⟨rfl, rfl⟩
/-- what is owed behind a call -/
def z_ret (w : z_W) (Y : z_Y) (d : Nat) (Q : z_O → z_M → Prop) (pc : Nat) (lv : List (Nat × Value)) (st : List Value) : z_O → z_M → Prop := fun q M => match q with
  | .inl v => z_Ex w Y d Q (pc + 3) lv (v.toList ++ st) M
  | .inr k => Q (.inr k) M
section ZV
variable {w : z_W} {Y y : z_Y} {d d' pc n nc ns : Nat} {h : Nat → va_E} {Q : z_O → z_M → Prop} {lv : List (Nat × Value)} {st st0 as : List Value}
def z_known (w : z_W) (y : z_Y) : Prop := z_has w (z_cw y) ∧ z_has w (.initialized y.1.cls)
theorem z_cv {C : String} {i ci : Nat} {fs : List Value} (hw : z_Wd w) (hs : z_site w Y pc y (some C) (.ref i :: as)) (hk : z_known w y) (hC : (vwCl[ci]?).map Prod.fst = some C) (hst : as.reverse ++ .ref i :: st = st0) (h2 : 2 ≤ i) (hc : h i = .inr (ci, fs))
    (hd : d' + 1 ≤ d) (hcl : z_Cl w y d' (.ref i :: as) (n, h, nc, ns) (z_ret w Y d Q pc lv st)) (hnt : Y.2.2.2.2 = [] := by rfl) (hwords : (st.map fun v => v.category).sum + y.2.2.1 ≤ 50 := by exact Nat.le_of_ble_eq_true rfl) : z_Ex w Y d Q pc lv st0 (n, h, nc, ns) := by
  refine z_call hw.1 hnt hs (by rw [← hst, List.reverse_cons, List.append_assoc]; rfl) hcl hd ?_ hk.1 hk.2 hwords (fun v M' h9 => h9) (fun k M' h9 => h9)
  intro C9 h9
  cases h9
  cases hq : vwCl[ci]? with
  | none => rw [hq] at hC; cases hC
  | some q =>
    rw [hq] at hC
    exact ⟨i, ci, fs, q, rfl, h2, hc, hq, Option.some.inj hC⟩
theorem z_cs (hw : z_Wd w) (hs : z_site w Y pc y none as) (hk : z_known w y) (hst : as.reverse ++ st = st0)
    (hd : d' + 1 ≤ d) (hcl : z_Cl w y d' as (n, h, nc, ns) (z_ret w Y d Q pc lv st)) (hnt : Y.2.2.2.2 = [] := by rfl) (hwords : (st.map fun v => v.category).sum + y.2.2.1 ≤ 50 := by exact Nat.le_of_ble_eq_true rfl) : z_Ex w Y d Q pc lv st0 (n, h, nc, ns) :=
  z_call hw.1 hnt hs hst hcl hd (fun C h9 => by cases h9) hk.1 hk.2 hwords (fun v M' h9 => h9) (fun k M' h9 => h9)
end ZV
