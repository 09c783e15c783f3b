/-! small facts -/
theorem nar01 {x : Int32} (h : x = 0 ∨ x = 1) : narrow .boolean (.int x) = .int x := by rcases h with rfl | rfl <;> decide
theorem fit01 {x : Int32} (h : x = 0 ∨ x = 1) : fits .boolean (.int x) = true := by rcases h with rfl | rfl <;> decide
theorem nI_dec (n : Nat) (h : 0 < n) : nI n + (-1) = nI (n - 1) := by
  obtain ⟨k, rfl⟩ : ∃ k, n = k + 1 := ⟨n - 1, by omega⟩
  exact pk_m1 k
theorem i64_no1 {v a b : Int64} (h : v < a) : ¬ (a ≤ v ∧ v ≤ b) := by
  rw [Int64.lt_iff_toInt_lt] at h
  rw [Int64.le_iff_toInt_le]
  omega
theorem i64_no2 {v a b : Int64} (h : b < v) : ¬ (a ≤ v ∧ v ≤ b) := by
  rw [Int64.lt_iff_toInt_lt] at h
  rw [Int64.le_iff_toInt_le, Int64.le_iff_toInt_le]
  omega
theorem i64_nlt {v a : Int64} (h : ¬ v < a) : a ≤ v := by
  rw [Int64.lt_iff_toInt_lt] at h
  rw [Int64.le_iff_toInt_le]
  omega
theorem nI_sub1 {n : Nat} (h : n ≤ 100000) : (nI n - nI 1).toInt = (n : Int) - 1 := pk_sub_toInt (a := n) (b := 1) (by omega) (by omega)
theorem nI_T {n : Nat} (h : n ≤ 100000) : (nI n).toInt = (n : Int) := nI_toInt (by omega)
theorem isv_y {v : Int32} {n : Nat} (hn : n ≤ 100000) (h0 : (0 : Int64) ≤ v.toInt64) (h1 : v.toInt64 ≤ (nI n - nI 1).toInt64) : ∃ j, j < n ∧ v = nI j := by
  rw [Int64.le_iff_toInt_le] at h0 h1
  rw [Int32.toInt_toInt64, Int32.toInt_toInt64, nI_sub1 hn] at h1
  rw [Int32.toInt_toInt64] at h0
  have h0' : (0 : Int) ≤ v.toInt := h0
  refine ⟨v.toInt.toNat, by omega, ?_⟩
  rw [← Int32.toInt_inj, nI_T (by omega)]
  omega
theorem isv_n {v : Int32} {n : Nat} (hn : n ≤ 100000) (h : ¬ ((0 : Int64) ≤ v.toInt64 ∧ v.toInt64 ≤ (nI n - nI 1).toInt64)) : ∀ j, j < n → v ≠ nI j := by
  rintro j hj rfl
  apply h
  rw [Int64.le_iff_toInt_le, Int64.le_iff_toInt_le, Int32.toInt_toInt64, Int32.toInt_toInt64, nI_sub1 hn, nI_T (by omega)]
  have : (0 : Int64).toInt = 0 := rfl
  omega
theorem upd_all {Q : Int32 → Prop} {f : Nat → Int32} {n : Nat} {x : Int32} (h : ∀ k, k < n → Q (f k)) (hx : Q x) : ∀ k, k < n + 1 → Q (upd f n x k) := by
  intro k hk
  by_cases e : k = n
  · subst e; rw [pk_us]; exact hx
  · rw [pk_un e]; exact h k (by omega)
theorem nI_subm (n : Nat) : nI n - nI 1 = nI n + (-1) := Int32.sub_eq_add_neg _ _
theorem nI_m1pos {n : Nat} (h : ¬ nI n + (-1) < 0) : ∃ k, n = k + 1 := by
  cases n with
  | zero => exact absurd (by decide) h
  | succ k => exact ⟨k, rfl⟩
theorem nI_m1neg {n : Nat} (hn : n ≤ 100000) (h : nI n + (-1) < 0) : n = 0 := by
  cases n with
  | zero => rfl
  | succ k => rw [pk_m1] at h; exact absurd h (nI_pos (by omega))
/-- what isSheet tells -/
theorem ish_y {s : Int32} (h0 : (0 : Int64) ≤ s.toInt64) (h1 : s.toInt64 ≤ 3) : ∃ j, j < 4 ∧ s = nI j := by
  rw [Int64.le_iff_toInt_le] at h0 h1
  rw [Int32.toInt_toInt64] at h0 h1
  have h0' : (0 : Int) ≤ s.toInt := h0
  have h1' : s.toInt ≤ 3 := h1
  refine ⟨s.toInt.toNat, by omega, ?_⟩
  rw [← Int32.toInt_inj, nI_T (by omega)]
  omega
theorem ish_n {s : Int32} (h : ¬ ((0 : Int64) ≤ s.toInt64 ∧ s.toInt64 ≤ 3)) : ∀ j, j < 4 → s ≠ nI j := by
  rintro j hj rfl
  apply h
  rw [Int64.le_iff_toInt_le, Int64.le_iff_toInt_le, Int32.toInt_toInt64, nI_T (by omega)]
  have : (0 : Int64).toInt = 0 := rfl
  have : (3 : Int64).toInt = 3 := rfl
  omega
/-- a place of a sheet, and so many numbers from it on -/
theorem ref_y {i : Int32} {z q : Nat} (hz : z ≤ 40) (hq : q < 2147483648) (h0 : ¬ i < 0) (h1 : i ≤ nI z - nI q) : ∃ j, i = nI j ∧ j + q ≤ z := by
  rw [Int32.lt_iff_toInt_lt] at h0
  rw [Int32.le_iff_toInt_le, Int32.toInt_sub, nI_T (by omega), nI_toInt (by omega)] at h1
  have h0' : ¬ i.toInt < 0 := h0
  have e : ((z : Int) - q).bmod (2 ^ 32) = (z : Int) - q := by
    apply Int.bmod_eq_of_le <;> omega
  rw [e] at h1
  refine ⟨i.toInt.toNat, ?_, by omega⟩
  rw [← Int32.toInt_inj, nI_T (by omega)]
  omega
theorem ref_n {i : Int32} {z q : Nat} (hz : z ≤ 40) (hq : q < 2147483648) (h : i < 0 ∨ ¬ i ≤ nI z - nI q) : ¬ ∃ j, i = nI j ∧ j + q ≤ z := by
  rintro ⟨j, rfl, hj⟩
  rcases h with h | h
  · exact nI_pos (by omega) h
  · apply h
    rw [Int32.le_iff_toInt_le, Int32.toInt_sub, nI_T (by omega), nI_T (by omega), nI_toInt (by omega)]
    have e : ((z : Int) - q).bmod (2 ^ 32) = (z : Int) - q := by
      apply Int.bmod_eq_of_le <;> omega
    rw [e]
    omega
theorem nI_nm1 {n : Nat} (h : n < 2 ^ 31) : ¬ nI n = -1 := by
  intro e
  have := congrArg Int32.toInt e
  rw [nI_toInt h] at this
  have h2 : (-1 : Int32).toInt = -1 := rfl
  omega
theorem lN_ne0 {n : Nat} (h0 : 0 < n) (h : n < 2147483648) : ¬ lN n = 0 := by
  intro e
  have := congrArg Int64.toInt e
  rw [lN_toInt (by omega)] at this
  have h2 : (0 : Int64).toInt = 0 := rfl
  omega
theorem rng_y {v : Int32} {a b : Nat} {A B : Int64} (hA : A.toInt = a) (hB : B.toInt = b) (hb : b ≤ 1000000) (h0 : A ≤ v.toInt64) (h1 : v.toInt64 ≤ B) : ∃ j, a ≤ j ∧ j ≤ b ∧ v = nI j := by
  rw [Int64.le_iff_toInt_le, Int32.toInt_toInt64] at h0 h1
  refine ⟨v.toInt.toNat, by omega, by omega, ?_⟩
  rw [← Int32.toInt_inj, nI_toInt (by omega)]
  omega
theorem rng_n {v : Int32} {b : Nat} {B : Int64} (hB : B.toInt = b) (h : ¬ ((0 : Int64) ≤ v.toInt64 ∧ v.toInt64 ≤ B)) (hb : b ≤ 1000000 := by omega) : ∀ j, j ≤ b → v ≠ nI j := by
  rintro j hj rfl
  apply h
  rw [Int64.le_iff_toInt_le, Int64.le_iff_toInt_le, Int32.toInt_toInt64, nI_toInt (by omega)]
  have : (0 : Int64).toInt = 0 := rfl
  omega
