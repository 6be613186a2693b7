/-! small numbers as Int32 -/
theorem zn_lt {a b : Nat} (ha : a < 2147483648) (hb : b < 2147483648) : nI a < nI b ↔ a < b := by
  rw [Int32.lt_iff_toInt_lt, nI_toInt ha, nI_toInt hb]; omega
theorem zn_le {a b : Nat} (ha : a < 2147483648) (hb : b < 2147483648) : nI a ≤ nI b ↔ a ≤ b := by
  rw [Int32.le_iff_toInt_le, nI_toInt ha, nI_toInt hb]; omega
theorem zn_eq {a b : Nat} (ha : a < 2147483648) (hb : b < 2147483648) : nI a = nI b ↔ a = b := by
  refine ⟨fun h => ?_, fun h => by rw [h]⟩
  have h9 := congrArg Int32.toInt h
  rw [nI_toInt ha, nI_toInt hb] at h9
  omega
theorem zn_add {a b : Nat} : nI a + nI b = nI (a + b) := by
  simp [nI, Int32.ofNat_add]
theorem zn_mul {a b : Nat} : nI a * nI b = nI (a * b) := by
  simp [nI, Int32.ofNat_mul]
theorem zn_sub {a b : Nat} (h : b ≤ a) : nI a - nI b = nI (a - b) := by
  have e : nI a = nI (a - b) + nI b := by rw [zn_add, Nat.sub_add_cancel h]
  rw [e]
  exact Int32.add_sub_cancel _ _
theorem zn_cl {a : Nat} (h : a < 2147483648) : (nI a).toNatClampNeg = a := nI_clamp h
theorem zn_in {a n : Nat} (h : a < n) (hn : n < 2147483648) : vp_in (nI a) n := nI_in h hn
theorem zn_neg {a : Nat} (h : a < 2147483648) : ¬ nI a < 0 := nI_pos h
/-- an Int32 within bounds is a small number -/
theorem zn_of {x : Int32} (h0 : ¬ x < 0) : ∃ a : Nat, a < 2147483648 ∧ x = nI a := by
  have h1 : 0 ≤ x.toInt := by
    rw [Int32.lt_iff_toInt_lt, Int32.toInt_zero] at h0
    omega
  have h2 : x.toInt < 2147483648 := Int32.toInt_lt x
  refine ⟨x.toInt.toNat, by omega, ?_⟩
  apply Int32.toInt_inj.mp
  rw [nI_toInt (by omega)]
  omega
theorem zn_of2 {x : Int32} {n : Nat} (hn : n < 2147483648) (h0 : ¬ x < 0) (h1 : x < nI n) : ∃ a : Nat, a < n ∧ x = nI a := by
  obtain ⟨a, ha, rfl⟩ := zn_of h0
  exact ⟨a, (zn_lt ha hn).mp h1, rfl⟩
theorem zn_m1 : ¬ (0 : Int32) ≤ -1 := by decide
theorem zn_0 : (0 : Int32) = nI 0 := rfl
theorem zn_1 : (1 : Int32) = nI 1 := rfl
theorem zn_2 : (2 : Int32) = nI 2 := rfl
theorem zn_4 : (4 : Int32) = nI 4 := rfl
theorem zn_5 : (5 : Int32) = nI 5 := rfl
theorem zn_6 : (6 : Int32) = nI 6 := rfl
theorem zn_9 : (9 : Int32) = nI 9 := rfl
theorem zn_10 : (10 : Int32) = nI 10 := rfl
theorem zn_24 : (24 : Int32) = nI 24 := rfl
theorem zn_40 : (40 : Int32) = nI 40 := rfl
theorem zn_60 : (60 : Int32) = nI 60 := rfl
theorem zn_142 : (142 : Int32) = nI 142 := rfl
theorem zn_255 : (255 : Int32) = nI 255 := rfl
theorem zn_1000 : (1000 : Int32) = nI 1000 := rfl
