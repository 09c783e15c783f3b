/-! small facts -/
theorem nar01 {x : Int32} (h : x = 0 ∨ x = 1) : narrow .boolean (.int x) = .int x := by rcases h with rfl | rfl <;> decide
theorem fit01 {x : Int32} (h : x = 0 ∨ x = 1) : fits .boolean (.int x) = true := by rcases h with rfl | rfl <;> decide
theorem nI_dec (n : Nat) (h : 0 < n) : nI n + (-1) = nI (n - 1) := by
  obtain ⟨k, rfl⟩ : ∃ k, n = k + 1 := ⟨n - 1, by omega⟩
  exact pk_m1 k
theorem i64_no1 {v a b : Int64} (h : v < a) : ¬ (a ≤ v ∧ v ≤ b) := by
  rw [Int64.lt_iff_toInt_lt] at h
  rw [Int64.le_iff_toInt_le]
  omega
theorem i64_no2 {v a b : Int64} (h : b < v) : ¬ (a ≤ v ∧ v ≤ b) := by
  rw [Int64.lt_iff_toInt_lt] at h
  rw [Int64.le_iff_toInt_le, Int64.le_iff_toInt_le]
  omega
theorem i64_nlt {v a : Int64} (h : ¬ v < a) : a ≤ v := by
  rw [Int64.lt_iff_toInt_lt] at h
  rw [Int64.le_iff_toInt_le]
  omega
theorem nI_sub1 {n : Nat} (h : n ≤ 100000) : (nI n - nI 1).toInt = (n : Int) - 1 := pk_sub_toInt (a := n) (b := 1) (by omega) (by omega)
theorem nI_T {n : Nat} (h : n ≤ 100000) : (nI n).toInt = (n : Int) := nI_toInt (by omega)
theorem isv_y {v : Int32} {n : Nat} (hn : n ≤ 100000) (h0 : (0 : Int64) ≤ v.toInt64) (h1 : v.toInt64 ≤ (nI n - nI 1).toInt64) : ∃ j, j < n ∧ v = nI j := by
  rw [Int64.le_iff_toInt_le] at h0 h1
  rw [Int32.toInt_toInt64, Int32.toInt_toInt64, nI_sub1 hn] at h1
  rw [Int32.toInt_toInt64] at h0
  have h0' : (0 : Int) ≤ v.toInt := h0
  refine ⟨v.toInt.toNat, by omega, ?_⟩
  rw [← Int32.toInt_inj, nI_T (by omega)]
  omega
theorem isv_n {v : Int32} {n : Nat} (hn : n ≤ 100000) (h : ¬ ((0 : Int64) ≤ v.toInt64 ∧ v.toInt64 ≤ (nI n - nI 1).toInt64)) : ∀ j, j < n → v ≠ nI j := by
  rintro j hj rfl
  apply h
  rw [Int64.le_iff_toInt_le, Int64.le_iff_toInt_le, Int32.toInt_toInt64, Int32.toInt_toInt64, nI_sub1 hn, nI_T (by omega)]
  have : (0 : Int64).toInt = 0 := rfl
  omega
