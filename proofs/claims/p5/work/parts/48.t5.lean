/-! told: sets with no bit from 24 on; how many bits (Integer.bitCount, byte by byte); the greatest nesting; what told answers -/
def T24 (x : Int32) : Prop := ∀ i, 24 ≤ i → bt x i = false
theorem T24_0 : T24 (nI 0) := fun i _ => b_0 i
theorem T24_or {x y : Int32} (hx : T24 x) (hy : T24 y) : T24 (x ||| y) := fun i hi => by rw [b_or, hx i hi, hy i hi]; rfl
theorem bt_1 : ∀ j, j < 32 → 1 ≤ j → bt 1 j = false := by decide +kernel
theorem T24_b1 {v : Nat} (hv : v < 24) : T24 (b1 v) := by
  intro i hi
  rcases Nat.lt_or_ge i 32 with h | h
  · rw [b_shl v (by omega) 1 h, bt_1 (i - v) (by omega) (by omega), Bool.and_false]
  · exact b_big h
theorem T24_lt {x : Int32} (h : T24 x) : x.toBitVec.toNat < 16777216 := Nat.lt_pow_two_of_testBit (n := 24) _ (fun i hi => h i hi)
theorem nI_bv (x : Int32) : x = nI x.toBitVec.toNat := by
  rw [← Int32.toBitVec_inj]
  apply BitVec.eq_of_toNat_eq
  rw [pk_tn x.toBitVec.isLt]
theorem nI_and {a b : Nat} (ha : a < 2 ^ 32) (hb : b < 2 ^ 32) : nI a &&& nI b = nI (a &&& b) := by
  rw [← Int32.toBitVec_inj]
  apply BitVec.eq_of_toNat_eq
  rw [Int32.toBitVec_and, BitVec.toNat_and, pk_tn ha, pk_tn hb, pk_tn (Nat.lt_of_le_of_lt Nat.and_le_left ha)]
/-- masks byte by byte -/
theorem and_8 {h l mh ml : Nat} (hl : l < 256) (hm : ml < 256) : (256 * h + l) &&& (256 * mh + ml) = 256 * (h &&& mh) + (l &&& ml) := by
  apply Nat.eq_of_testBit_eq
  intro i
  have hx : (l &&& ml) < 2 ^ 8 := Nat.lt_of_le_of_lt Nat.and_le_left hl
  rw [Nat.testBit_and, show (256 : Nat) = 2 ^ 8 from rfl, Nat.testBit_two_pow_mul_add _ hl, Nat.testBit_two_pow_mul_add _ hm, Nat.testBit_two_pow_mul_add _ hx]
  split
  · rw [Nat.testBit_and]
  · rw [Nat.testBit_and]
theorem and_24 {p q r mp mq mr : Nat} (hq : q < 256) (hr : r < 256) (hmq : mq < 256) (hmr : mr < 256) : (65536 * p + 256 * q + r) &&& (65536 * mp + 256 * mq + mr) = 65536 * (p &&& mp) + 256 * (q &&& mq) + (r &&& mr) := by
  rw [show 65536 * p + 256 * q + r = 256 * (256 * p + q) + r by omega, show 65536 * mp + 256 * mq + mr = 256 * (256 * mp + mq) + mr by omega, and_8 hr hmr, and_8 hq hmq]
  omega
def bc_u (y : Nat) : Nat := (y / 2) &&& 85
def bc_v (y : Nat) : Nat := y - bc_u y
def bc_w (y : Nat) : Nat := (y &&& 51) + ((y / 4) &&& 51)
def bc_x (y : Nat) : Nat := (y + y / 16) % 16
theorem bc_a : ∀ y, y < 256 → ∀ z, z < 2 → ((128 * z + y / 2) &&& 85) = bc_u y ∧ bc_u y ≤ y := by decide +kernel
theorem bc_b : ∀ y, y < 256 → ((y / 2) &&& 21845) = bc_u y := by decide +kernel
theorem bc_c : ∀ y, y < 256 → ∀ z, z < 4 → ((64 * z + (bc_v y) / 4) &&& 51) = ((bc_v y) / 4) &&& 51 := by decide +kernel
theorem bc_d : ∀ y, y < 256 → ((bc_v y) / 4 &&& 13107) = ((bc_v y) / 4) &&& 51 ∧ (bc_v y &&& 13107) = (bc_v y &&& 51) := by decide +kernel
theorem bc_e : ∀ y, y < 256 → bc_w (bc_v y) ≤ 68 ∧ bc_w (bc_v y) % 16 ≤ 4 ∧ bc_x (bc_w (bc_v y)) = cnt (fun i => y.testBit i) 8 ∧ bc_v y < 256 := by decide +kernel
theorem bc_f : ∀ y, y < 256 → y &&& 15 = y % 16 := by decide +kernel
theorem cnt_app (f : Nat → Bool) (m : Nat) : ∀ k, cnt f (m + k) = cnt f m + cnt (fun i => f (m + i)) k
  | 0 => rfl
  | k + 1 => by
    have h1 : cnt f (m + (k + 1)) = cnt f (m + k) + (if f (m + k) = true then 1 else 0) := rfl
    have h2 : cnt (fun i => f (m + i)) (k + 1) = cnt (fun i => f (m + i)) k + (if f (m + k) = true then 1 else 0) := rfl
    rw [h1, h2, cnt_app f m k, Nat.add_assoc]
def bc1 (x : Int32) : Int32 := x - ((x.toUInt32 >>> ((1 : Int32).toUInt32 &&& Int32.toUInt32 31)).toInt32 &&& (1431655765 : Int32))
def bc2 (x : Int32) : Int32 := (x &&& (858993459 : Int32)) + ((x.toUInt32 >>> ((2 : Int32).toUInt32 &&& Int32.toUInt32 31)).toInt32 &&& (858993459 : Int32))
def bc3 (x : Int32) : Int32 := (x + (x.toUInt32 >>> ((4 : Int32).toUInt32 &&& Int32.toUInt32 31)).toInt32) &&& (252645135 : Int32)
def bc4 (x : Int32) : Int32 := x + (x.toUInt32 >>> ((8 : Int32).toUInt32 &&& Int32.toUInt32 31)).toInt32
def bc5 (x : Int32) : Int32 := x + (x.toUInt32 >>> ((16 : Int32).toUInt32 &&& Int32.toUInt32 31)).toInt32
theorem bc1_n {p q r : Nat} (hp : p < 256) (hq : q < 256) (hr : r < 256) : bc1 (nI (65536 * p + 256 * q + r)) = nI (65536 * bc_v p + 256 * bc_v q + bc_v r) := by
  have a1 := (bc_a p hp 0 (by omega)).2
  have a2 := (bc_a q hq 0 (by omega)).2
  have a3 := (bc_a r hr 0 (by omega)).2
  have e1 : (65536 * p + 256 * q + r) / 2 = 65536 * (p / 2) + 256 * (128 * (p % 2) + q / 2) + (128 * (q % 2) + r / 2) := by omega
  unfold bc1
  rw [pk_ushrN (by omega) 1 1 rfl, show (1431655765 : Int32) = nI 1431655765 from rfl, nI_and (by omega) (by omega), Nat.pow_one, e1, show (1431655765 : Nat) = 65536 * 21845 + 256 * 85 + 85 from rfl, and_24 (by omega) (by omega) (by omega) (by omega), bc_b p hp, (bc_a q hq (p % 2) (by omega)).1, (bc_a r hr (q % 2) (by omega)).1, pk_sub (by omega)]
  congr 1
  unfold bc_v
  omega
theorem bc2_n {p q r : Nat} (hp : p < 256) (hq : q < 256) (hr : r < 256) : bc2 (nI (65536 * bc_v p + 256 * bc_v q + bc_v r)) = nI (65536 * bc_w (bc_v p) + 256 * bc_w (bc_v q) + bc_w (bc_v r)) := by
  have g1 := (bc_e p hp).2.2.2
  have g2 := (bc_e q hq).2.2.2
  have g3 := (bc_e r hr).2.2.2
  have e1 : (65536 * bc_v p + 256 * bc_v q + bc_v r) / 4 = 65536 * (bc_v p / 4) + 256 * (64 * (bc_v p % 4) + bc_v q / 4) + (64 * (bc_v q % 4) + bc_v r / 4) := by omega
  unfold bc2
  rw [pk_ushrN (by omega) 2 2 rfl, show (858993459 : Int32) = nI 858993459 from rfl, nI_and (by omega) (by omega), nI_and (by omega) (by omega), show (2 : Nat) ^ 2 = 4 from rfl, e1, show (858993459 : Nat) = 65536 * 13107 + 256 * 51 + 51 from rfl, and_24 (by omega) (by omega) (by omega) (by omega), and_24 (by omega) (by omega) (by omega) (by omega), (bc_d p hp).1, (bc_d p hp).2, bc_c q hq (bc_v p % 4) (by omega), bc_c r hr (bc_v q % 4) (by omega), nI_add]
  congr 1
  unfold bc_w
  omega
theorem bc3_n {a b c : Nat} (ha : a ≤ 68) (hb : b ≤ 68) (hc : c ≤ 68) (ha2 : a % 16 ≤ 4) (hb2 : b % 16 ≤ 4) : bc3 (nI (65536 * a + 256 * b + c)) = nI (65536 * bc_x a + 256 * bc_x b + bc_x c) := by
  have e1 : 65536 * a + 256 * b + c + (65536 * a + 256 * b + c) / 16 = 65536 * (a + a / 16) + 256 * (b + b / 16 + 16 * (a % 16)) + (c + c / 16 + 16 * (b % 16)) := by omega
  unfold bc3
  rw [pk_ushrN (by omega) 4 4 rfl, show (2 : Nat) ^ 4 = 16 from rfl, nI_add, e1, show (252645135 : Int32) = nI 252645135 from rfl, nI_and (by omega) (by omega), show (252645135 : Nat) = 65536 * 3855 + 256 * 15 + 15 from rfl, and_24 (by omega) (by omega) (by omega) (by omega), bc_f _ (by omega), bc_f _ (by omega)]
  congr 1
  have e2 : (a + a / 16) &&& 3855 = (a + a / 16) % 16 := (show ∀ y, y < 256 → y &&& 3855 = y % 16 by decide +kernel) _ (by omega)
  rw [e2]
  unfold bc_x
  omega
theorem bc_all (x : Int32) (hT : T24 x) : bc5 (bc4 (bc3 (bc2 (bc1 x)))) &&& (63 : Int32) = nI (cnt (bt x) 24) := by
  have hlt := T24_lt hT
  have ex := nI_bv x
  have hb : ∀ i, bt x i = x.toBitVec.toNat.testBit i := fun i => rfl
  generalize x.toBitVec.toNat = a at hlt ex hb
  obtain ⟨p, q, r, hp, hq, hr, rfl⟩ : ∃ p q r, p < 256 ∧ q < 256 ∧ r < 256 ∧ a = 65536 * p + 256 * q + r := ⟨a / 65536, a / 256 % 256, a % 256, by omega, by omega, by omega, by omega⟩
  have c1 := bc_e p hp
  have c2 := bc_e q hq
  have c3 := bc_e r hr
  have n1 := cnt_le (fun i => p.testBit i) 8
  have n2 := cnt_le (fun i => q.testBit i) 8
  have n3 := cnt_le (fun i => r.testBit i) 8
  have t1 : ∀ i, i < 8 → bt x i = r.testBit i := fun i hi => by
    rw [hb, show 65536 * p + 256 * q + r = 2 ^ 8 * (256 * p + q) + r by omega, Nat.testBit_two_pow_mul_add _ (show r < 2 ^ 8 from hr), if_pos hi]
  have t2 : ∀ i, i < 8 → bt x (8 + i) = q.testBit i := fun i hi => by
    rw [hb, show 65536 * p + 256 * q + r = 2 ^ 8 * (2 ^ 8 * p + q) + r by omega, Nat.testBit_two_pow_mul_add _ (show r < 2 ^ 8 from hr), if_neg (by omega), show 8 + i - 8 = i by omega, Nat.testBit_two_pow_mul_add _ (show q < 2 ^ 8 from hq), if_pos hi]
  have t3 : ∀ i, i < 8 → bt x (16 + i) = p.testBit i := fun i hi => by
    rw [hb, show 65536 * p + 256 * q + r = 2 ^ 8 * (2 ^ 8 * p + q) + r by omega, Nat.testBit_two_pow_mul_add _ (show r < 2 ^ 8 from hr), if_neg (by omega), show 16 + i - 8 = 8 + i by omega, Nat.testBit_two_pow_mul_add _ (show q < 2 ^ 8 from hq), if_neg (by omega), show 8 + i - 8 = i by omega]
  have hc : cnt (bt x) 24 = cnt (fun i => r.testBit i) 8 + cnt (fun i => q.testBit i) 8 + cnt (fun i => p.testBit i) 8 := by
    rw [show (24 : Nat) = 8 + 8 + 8 from rfl, cnt_app (bt x) (8 + 8) 8, cnt_app (bt x) 8 8, cnt_c 8 t1, cnt_c (p := fun i => bt x (8 + i)) 8 t2, cnt_c (p := fun i => bt x (8 + 8 + i)) 8 (fun i hi => t3 i hi)]
  rw [hc, ex, bc1_n hp hq hr, bc2_n hp hq hr, bc3_n c1.1 c2.1 c3.1 c1.2.1 c2.2.1, c1.2.2.1, c2.2.2.1, c3.2.2.1]
  generalize cnt (fun i => p.testBit i) 8 = P at n1 ⊢
  generalize cnt (fun i => q.testBit i) 8 = Q at n2 ⊢
  generalize cnt (fun i => r.testBit i) 8 = S at n3 ⊢
  have e8 : (65536 * P + 256 * Q + S) / 2 ^ 8 = 256 * P + Q := by omega
  have e16 : (65536 * P + 256 * (P + Q) + (Q + S)) / 2 ^ 16 = P := by omega
  unfold bc4
  rw [pk_ushrN (by omega) 8 8 rfl, nI_add, e8, show 65536 * P + 256 * Q + S + (256 * P + Q) = 65536 * P + 256 * (P + Q) + (Q + S) by omega]
  unfold bc5
  rw [pk_ushrN (by omega) 16 16 rfl, nI_add, e16, pk_andN (by omega) 6 rfl]
  congr 1
  omega
/-- one bit -/
def bn (x : Int32) (k : Nat) : Nat := if bt x k = true then 1 else 0
theorem bn_le (x : Int32) (k : Nat) : bn x k ≤ 1 := by unfold bn; split <;> omega
theorem cnt_bn (x : Int32) (k : Nat) : cnt (bt x) (k + 1) = cnt (bt x) k + bn x k := rfl
theorem bitN (x : Int32) {k : Nat} (hk : k < 24) : (x >>> (nI k &&& 31)) &&& 1 = nI (bn x k) := by
  have h : hasb x k = bt x k := hasb_bt hk
  unfold bn
  rw [pk_and (x >>> (nI k &&& 31)) (m := 1) 1 rfl]
  unfold hasb at h
  rw [pk_and (x >>> (nI k &&& 31)) (m := 1) 1 rfl] at h
  rcases (show (x >>> (nI k &&& 31)).toBitVec.toNat % 2 ^ 1 = 0 ∨ (x >>> (nI k &&& 31)).toBitVec.toNat % 2 ^ 1 = 1 by omega) with e | e
  · rw [e] at h ⊢
    rw [if_neg]
    intro q
    rw [← h] at q
    exact absurd q (by decide)
  · rw [e] at h ⊢
    rw [if_pos]
    rw [← h]
    decide
/-- the greatest nesting of lines -/
def nst (t : Nat → Int32) : Nat → Nat
  | 0 => 0
  | n + 1 => if nst t n < 1 + cnt (bt (t n)) 24 then 1 + cnt (bt (t n)) 24 else nst t n
theorem nst_le (t : Nat → Int32) : ∀ n, nst t n ≤ 25
  | 0 => Nat.zero_le _
  | n + 1 => by
    have h1 := nst_le t n
    have h2 := cnt_le (bt (t n)) 24
    rw [nst]
    split <;> omega
theorem nst_c {t u : Nat → Int32} : ∀ (n : Nat), rwE t u n → nst t n = nst u n
  | 0, _ => rfl
  | n + 1, h => by rw [nst, nst, nst_c n (h.le (by omega)), h n (by omega)]
theorem mxN {a b : Nat} (ha : a < 2 ^ 31) (hb : b < 2 ^ 31) : (if nI a < nI b then nI b else nI a) = nI (if a < b then b else a) := by
  by_cases h : a < b
  · rw [if_pos h, if_pos ((nI_ltI ha hb).mpr h)]
  · rw [if_neg h, if_neg (fun q => h ((nI_ltI ha hb).mp q))]
/-- took's sets, in a state, its held lines, its images -/
def TK (s : pS) : Prop := (∀ i, T24 (s.2 7 i)) ∧ (∀ i, T24 (s.2 30 i)) ∧ (∀ i, T24 (s.2 67 i)) ∧ (∀ i, T24 (s.2 77 i))
theorem TK_of {s t : pS} (h : TK s) (e7 : t.2 7 = s.2 7) (e30 : t.2 30 = s.2 30) (e67 : t.2 67 = s.2 67) (e77 : t.2 77 = s.2 77) : TK t := by
  unfold TK
  rw [e7, e30, e67, e77]
  exact h
theorem TK_7 {s t : pS} (h : TK s) (h7 : ∀ i, T24 (t.2 7 i)) (e30 : t.2 30 = s.2 30) (e67 : t.2 67 = s.2 67) (e77 : t.2 77 = s.2 77) : TK t := by
  unfold TK
  rw [e30, e67, e77]
  exact ⟨h7, h.2⟩
theorem TK_open {s : pS} {x : Int32} (h : TK s) : TK (sOpen s x) := ⟨h.1, h.1, h.2.2⟩
theorem T24_ins {f : Nat → Int32} {a : Nat} (h : ∀ i, T24 (f i)) : ∀ i, T24 (insP f a (nI 0) i) := by
  intro i
  unfold insP
  split
  · exact h i
  · split
    · exact T24_0
    · exact h _
theorem T24_upd {f : Nat → Int32} {a : Nat} {x : Int32} (h : ∀ i, T24 (f i)) (hx : T24 x) : ∀ i, T24 (upd f a x i) := by
  intro i
  by_cases e : i = a
  · subst e; rw [pk_us]; exact hx
  · rw [pk_un e]; exact h i
theorem TK_ins {s : pS} {a : Nat} {c : Int32} (h : TK s) : TK (sIns s a c) := TK_7 h (T24_ins h.1) rfl rfl rfl
theorem TK_take {s : pS} {a : Nat} (h : TK s) (hv : s.1 0 < 24) : TK (sTake s a) := by
  unfold sTake
  split
  · refine TK_7 h (fun i => ?_) rfl rfl rfl
    show T24 (delP (s.2 7) a i)
    unfold delP
    split
    · exact h.1 i
    · exact h.1 _
  · exact TK_7 h (T24_upd h.1 (T24_or (h.1 a) (T24_b1 hv))) rfl rfl rfl
theorem TK_line {s : pS} {x : Nat} (h : TK s) (hv : s.1 0 < 24) : TK (sLine s x).1 := by
  unfold sLine
  split
  · split
    · exact TK_take h hv
    · exact h
  · split
    · exact h
    · exact TK_ins h
theorem TK_lines : ∀ (k : Nat) (t : pS × Nat × Bool), TK t.1 → t.1.1 0 < 24 → TK (sLines k t).1
  | 0, _, h, _ => h
  | k + 1, t, h, hv => by
    rw [sLines]
    split
    · exact TK_lines k _ (TK_line h hv) (by rw [(sLine_n t.1 t.2.1).1]; exact hv)
    · exact h
theorem TK_ver {t : pS × Nat × Bool} (h : TK t.1) (hv : t.1.1 0 < 24) : TK (sVer t).1 := TK_of (s := (sLines 3 (sOpen t.1 (nI (lot1 t.2.1 % t.1.1 0)), lot1 t.2.1, true)).1) (TK_lines 3 _ (TK_open h) hv) rfl rfl rfl rfl
theorem TK_vers : ∀ (k : Nat) (t : pS × Nat × Bool), TK t.1 → TK (sVers k t).1
  | 0, _, h => h
  | k + 1, t, h => by
    rw [sVers]
    split
    · rename_i hc
      exact TK_vers k _ (TK_ver h hc.2)
    · exact h
theorem TK_opnF {s : pS} {v : Int32} (h : TK s) : TK (opnF s v) := by
  unfold opnF
  split
  · exact h
  · split
    · exact h
    · split
      · exact h
      · exact TK_open h
theorem TK_incF {s : pS} {v : Int32} (h : TK s) : TK (incF s v) := by
  unfold incF
  split
  · exact h
  · split
    · exact h
    · exact TK_of h rfl rfl rfl rfl
theorem TK_excF {s : pS} {v : Int32} (h : TK s) : TK (excF s v) := by
  unfold excF
  split
  · exact h
  · split
    · exact h
    · exact TK_of h rfl rfl rfl rfl
theorem TK_putF {s : pS} {i c : Int32} (h : TK s) : TK (putF s i c) := by
  unfold putF
  split
  · exact h
  · split
    · exact h
    · split
      · exact h
      · exact TK_ins h
theorem TK_takF {s : pS} {i : Int32} (h : TK s) (hI : IS s) : TK (takF s i) := by
  unfold takF
  split
  · exact h
  · split
    · exact h
    · rename_i h2
      exact TK_take h (hI.2.2.2.1 (by have := hI.2.2.1; omega))
theorem TK_clsF {s : pS} (h : TK s) : TK (clsF s) := by
  unfold clsF
  split
  · exact h
  · exact TK_of h rfl rfl rfl rfl
theorem TK_leaF {s : pS} (h : TK s) : TK (leaF s) := by
  unfold leaF
  split
  · exact h
  · exact TK_7 h h.2.1 rfl rfl rfl
theorem TK_driF {s : pS} {n x : Int32} (h : TK s) : TK (driF s n x) := by
  unfold driF
  split
  · exact h
  · split
    · exact h
    · exact TK_vers _ (s, vN x, true) h
theorem TK_sheF {s : pS} {a b : Int32} (h : TK s) : TK (sheF s a b) := by
  unfold sheF
  split
  · exact h
  · split
    · exact h
    · exact TK_of h rfl rfl rfl rfl
theorem TK_droF {s : pS} {a : Int32} (h : TK s) : TK (droF s a) := by
  unfold droF
  split
  · exact h
  · split
    · exact h
    · exact TK_of h rfl rfl rfl rfl
theorem TK_kee {s : pS} {i : Nat} (h : TK s) (hi : i < 2) : TK (sKeep s i) := by
  rcases (show i = 0 ∨ i = 1 by omega) with rfl | rfl
  · exact ⟨h.1, h.2.1, h.1, h.2.2.2⟩
  · exact ⟨h.1, h.2.1, h.2.2.1, h.1⟩
theorem TK_keeF {s : pS} {i : Int32} (h : TK s) : TK (keeF s i) := by
  unfold keeF
  split
  · exact h
  · rename_i h1
    split
    · exact h
    · exact TK_kee h (inR_e (by omega) (Classical.not_not.mp h1)).1
theorem TK_bac {s : pS} {i : Nat} (h : TK s) (hi : i < 2) : TK (sBack s i) := by
  rcases (show i = 0 ∨ i = 1 by omega) with rfl | rfl
  · exact ⟨h.2.2.1, h.2.1, h.2.2.1, h.2.2.2⟩
  · exact ⟨h.2.2.2, h.2.1, h.2.2.1, h.2.2.2⟩
theorem TK_bacF {s : pS} {i : Int32} (h : TK s) : TK (bacF s i) := by
  unfold bacF
  split
  · exact h
  · rename_i h1
    split
    · exact h
    · exact TK_bac h (inR_e (by omega) (Classical.not_not.mp h1)).1
theorem TK_feeF {s : pS} {c : Int32} (h : TK s) : TK (feeF s c) := by
  unfold feeF
  split
  · exact h
  · split
    · exact h
    · exact TK_of h rfl rfl rfl rfl
/-- reading keeps to it -/
def PT (s : pS) : Prop := (∀ i, T24 (s.2 22 i)) ∧ (∀ d, d < s.1 23 → ∃ v, v < 24 ∧ s.2 24 d = nI v) ∧ s.1 15 ≤ 24
theorem PT_0 : PT s0 := ⟨fun _ => T24_0, fun d hd => absurd hd (Nat.not_lt_zero d), Nat.zero_le _⟩
theorem T24_tkA {bk bi : Nat → Int32} : ∀ (d : Nat), (∀ k, k < d → ∃ v, v < 24 ∧ bk k = nI v) → T24 (tkA bk bi d)
  | 0, _ => T24_0
  | d + 1, h => by
    rw [tkA]
    refine T24_or (T24_tkA d (fun k hk => h k (by omega))) ?_
    split
    · obtain ⟨v, hv, e⟩ := h d (by omega)
      rw [e]
      exact T24_b1 hv
    · exact T24_0
theorem PT_vST {t : Nat → Int32} {n : Nat} {s : pS} (h : PT s) : PT (vST t n s).2.2 := by
  unfold vST vSa
  split
  · exact h
  · rename_i h24
    split
    · exact h
    · split
      · exact h
      · unfold vSb
        split
        · exact h
        · unfold vSc
          split
          · exact h
          · split
            · exact h
            · exact ⟨h.1, h.2.1, by show s.1 15 + 1 ≤ 24; have := h.2.2; omega⟩
theorem PT_bST {t : Nat → Int32} {n : Nat} {z : Bool} {s : pS} (h : PT s) : PT (bST t n z s).2.2 := by
  unfold bST bSa
  split
  · exact h
  · rename_i hv
    split
    · exact h
    · split
      · exact h
      · refine ⟨h.1, ?_, h.2.2⟩
        have hv2 := (vF_ok (Classical.not_not.mp hv)).2
        intro d hd
        have hd2 : d < s.1 23 + 1 := hd
        show ∃ v, v < 24 ∧ upd (s.2 24) (s.1 23) (nI (nV t n (s.1 12 + 1))) d = nI v
        by_cases e : d = s.1 23
        · subst e
          rw [pk_us]
          exact ⟨_, by have := h.2.2; omega, rfl⟩
        · rw [pk_un e]
          exact h.2.1 d (by omega)
theorem PT_lST {c : Int32} {s : pS} (h : PT s) : PT (lST c s).2.2 := by
  unfold lST lSa
  split
  · exact h
  · split
    · exact h
    · split
      · exact h
      · exact ⟨T24_upd h.1 (T24_tkA _ h.2.1), h.2.1, h.2.2⟩
theorem PT_iST {t : Nat → Int32} {n : Nat} {z : Bool} {s : pS} (h : PT s) : PT (iST t n z s).2.2 := by
  unfold iST iSa
  split
  · exact PT_vST h
  · split
    · exact PT_bST h
    · split
      · exact PT_bST h
      · split
        · exact PT_lST h
        · split
          · exact ⟨h.1, fun d hd => h.2.1 d (by have hd2 : d < s.1 23 - 1 := hd; omega), h.2.2⟩
          · exact h
theorem PT_pIt {t : Nat → Int32} {n : Nat} {z : Bool} {s : pS} (h : PT s) : PT (pIt t n z s).2.2 := by
  unfold pIt
  exact PT_iST (s := pN s 12 (sk t n (s.1 12))) ⟨h.1, h.2.1, h.2.2⟩
theorem PT_pLF {t : Nat → Int32} {n : Nat} : ∀ (f : Nat) (z : Bool) (s : pS), PT s → PT (pLF t n f z s).2.2
  | 0, _, _, h => h
  | f + 1, z, s, h => by
    rw [pLF]
    split
    · split
      · exact PT_pLF f _ _ (PT_pIt h)
      · exact PT_pIt h
    · split
      · exact h
      · exact h
theorem PT_pEv {t : Nat → Int32} {n : Nat} {z : Bool} {s : pS} {r : iR} (h : pEv t n z s r) (hs : PT s) : PT r.2.2 := by
  obtain ⟨f, hf⟩ := h
  rw [← hf f (Nat.le_refl f)]
  exact PT_pLF f z s hs
theorem TK_wovF {s : pS} {r : iR} (h : TK s) (hr : PT r.2.2) : TK (wovF s r) := by
  unfold wovF
  split
  · exact TK_7 h hr.1 rfl rfl rfl
  · exact TK_of h rfl rfl rfl rfl
/-- what told answers -/
def tolA (s : pS) (what : Int32) : Int32 := if what = 0 then nI (s.1 0) else if what = 1 then nI (s.1 4) else if what = 2 then (if s.1 8 = 0 then -1 else s.2 1 (s.1 0)) else if what = 3 then (if s.1 8 = 0 then 0 else 1) else if what = 4 then (if s.1 8 = 0 then 0 else nI (olS s)) else if what = 5 then nI (cnt (nbb (s.2 6) (s.2 7)) (s.1 4)) else if what = 6 then nI (nst (s.2 7) (s.1 4)) else if what = 7 then nI (cnt (fun i => decide (lifeS s i = 0)) (s.1 4)) else if what = 8 then nI (s.1 10) else if what = 9 then nI (cnt (fun j => decide (¬ s.1 (50 + j) = 0)) 4) else aOUT
theorem ShM_th {u : oS} {sj : Nat → Int64} {s : pS} {zz : Nat → Nat → Int64} (h : ShM u sj s zz) : ∀ j, j < 4 → decide (¬ u.2 32 j = 0) = decide (¬ s.1 (50 + j) = 0) := by
  intro j hj
  rcases h j hj with ⟨a, b, -⟩ | ⟨a, b, -⟩
  · rw [a, b]; rfl
  · rw [decide_eq_true b, decide_eq_true (show ¬ s.1 (50 + j) = 0 by omega)]
theorem ShX_th {z : oS} {jj : Nat → Nat → Int64} {s : pS} {zz : Nat → Nat → Int64} (h : ShX z jj s zz) (hI : IS s) : ∀ j, j < 4 → decide (¬ z.2 1 j = -1) = decide (¬ s.1 (50 + j) = 0) := by
  intro j hj
  have hb := hI.2.2.2.2.2.2.2.2.2.2 j hj
  rcases h j hj with ⟨a, b⟩ | ⟨a, b, -⟩
  · rw [a, b]; rfl
  · rw [decide_eq_true (show ¬ s.1 (50 + j) = 0 by omega), decide_eq_true]
    rw [b]
    exact nI_nm1 (by omega)
set_option maxHeartbeats 1000000 in
set_option maxRecDepth 100000 in
theorem mt_X5_bitsF (l : Launch) (se : Int32) : Met l yX5_bits wsX5_bits ({ frames := 0, cells := 0, slots := 0, locals := 0 }) (preS [.int se]) (vp_Si (fun r : Int32 => r = nI (cnt (bt se) 24))) 0 0 (fun _ => False) := by
  refine Met.ofW (cc := cX5_bits) (maxL := 3) (ret := (some .int)) (by decide) rfl ?_
  intro p e s m args below meth c s₁ B hml hv
  obtain ⟨ha, -⟩ := hv
  subst ha
  have hx := B.exec
  have hb := B.bytes
  have hr := B.returns
  have hts := atoms_spec (ws := wsX5_bits) B.pre
  have hown : s.vm.findClass RX5 = some m.cls := findClass_of_methodNamed B.named
  have hlocks := B.notSynchronized
  have hl := lv_entry ([.int se]) (n := 3) (Nat.le_of_ble_eq_true rfl)
  rw [lg_entry_eq]
  generalize (lg_sl ([.int se]) ++ List.replicate (3 - (lg_sl ([.int se])).length) Slot.unset).toArray = ls at hl ⊢
  have hl : lv_has ls 3 [(0, .int se)] := hl
  refine lv_iconst (v := nI 0) hx hb dX5_bits_0 (by decide) ?_
  refine lv_istore_n (lv' := [(1, .int (nI 0)), (0, .int se)]) hx hb dX5_bits_1 rfl hl (by decide) rfl (fun ls hl => ?_)
  refine lv_iconst (v := nI 0) hx hb dX5_bits_2 (by decide) ?_
  refine lv_istore_n (lv' := [(2, .int (nI 0)), (1, .int (nI 0)), (0, .int se)]) hx hb dX5_bits_3 rfl hl (by decide) rfl (fun ls hl => ?_)
  have LP4 : ∀ (n4m : Nat), ∀ (k : Nat) (j : Nat) (hk : k ≤ 24) (hj : j = cnt (bt se) k) (hj2 : j ≤ k), (24 - k < n4m) → ∀ (ls : Array Slot), lv_has ls 3 [(0, .int se), (1, .int (nI j)), (2, .int (nI k))] → W p l e (headSpec wsX5_bits ({ frames := 0, cells := 0, slots := 0, locals := 0 })).room s m ([.int se] : List Value).toArray below meth c s.heap [] 0 0 (MQ below (vp_Si (fun r : Int32 => r = nI (cnt (bt se) 24))) ([.int se] : List Value).toArray s 0 0 (fun _ => False)) (F0 m 4 ls []) := by
    intro n4m
    induction n4m with
    | zero => intro k j hk hj hj2 hmu ls hl; exact absurd hmu (Nat.not_lt_zero _)
    | succ n4m ih4 =>
      intro k j hk hj hj2 hmu ls hl
      refine lv_iload_n hx hb dX5_bits_4 rfl (lv_at hl 2 rfl) ?_
      refine lv_bipush (v := nI 24) hx hb dX5_bits_5 (by decide) ?_
      refine lv_icmp_ge (tgt := 24) hx hb dX5_bits_7 (by decide) (fun c7 => ?_) (fun c7 => ?_)
      · skip
        have n7 : 24 ≤ k := (nI_leI (a := 24) (b := k) (by omega) (by omega)).mp c7
        refine lv_iload_n hx hb dX5_bits_24 rfl (lv_at hl 1 rfl) ?_
        exact W.iret (v := nI j) hx hb hr (fun t ht hW => ⟨nI j, rfl, by rw [hj, show k = 24 by omega], ht⟩) (fun _ h9 => by cases h9) dX5_bits_25
      · skip
        have n7 : ¬ (24 ≤ k) := fun q9 => c7 ((nI_leI (a := 24) (b := k) (by omega) (by omega)).mpr q9)
        refine lv_iload_n hx hb dX5_bits_10 rfl (lv_at hl 1 rfl) ?_
        refine lv_iload_n hx hb dX5_bits_11 rfl (lv_at hl 0 rfl) ?_
        refine lv_iload_n hx hb dX5_bits_12 rfl (lv_at hl 2 rfl) ?_
        refine lv_ishr hx hb dX5_bits_13 ?_
        refine lv_iconst (v := (1 : Int32)) hx hb dX5_bits_14 (by decide) ?_
        refine lv_iand hx hb dX5_bits_15 ?_
        refine topE (bitN se (k := k) (by omega)) ?_
        have hbn := bn_le se k
        refine lv_iadd hx hb dX5_bits_16 ?_
        refine topE (y := nI (j + (bn se k))) (nI_add j (bn se k)) ?_
        refine lv_istore_n (lv' := [(1, .int (nI (j + (bn se k)))), (0, .int se), (2, .int (nI k))]) hx hb dX5_bits_17 rfl hl (by decide) rfl (fun ls hl => ?_)
        refine lv_iinc (v := nI (k + 1)) (lv' := [(2, .int (nI (k + 1))), (1, .int (nI (j + (bn se k)))), (0, .int se)]) hx hb dX5_bits_18 hl (k := 2) rfl (nI_1 k) (by decide) rfl (fun ls hl => ?_)
        refine lv_goto (tgt := 4) hx hb dX5_bits_21 (by decide) ?_
        exact ih4 (k + 1) (j + (bn se k)) (by first | assumption | omega) (by rw [cnt_bn, ← hj]) (by first | assumption | omega) (by omega) ls (lv_sub hl [2, 1, 0] rfl)
  exact LP4 (24 - 0 + 1) 0 0 (by first | assumption | omega) (rfl) (by first | assumption | omega) (Nat.lt_succ_self _) ls (lv_sub hl [2, 1, 0] rfl)
set_option maxHeartbeats 1000000 in
set_option maxRecDepth 100000 in
theorem mt_J6_bitCountF (l : Launch) (x : Int32) (hT : T24 x) : Met l yJ6_bitCount_0f7a4 wsJ6_bitCount_0f7a4 ({ frames := 0, cells := 0, slots := 0, locals := 0 }) (preS [.int x]) (vp_Si (fun r : Int32 => r = nI (cnt (bt x) 24))) 0 0 (fun _ => False) := by
  refine Met.ofW (cc := cJ6_bitCount_0f7a4) (maxL := 1) (ret := (some .int)) (by decide) rfl ?_
  intro p e s m args below meth c s₁ B hml hv
  obtain ⟨ha, -⟩ := hv
  subst ha
  have hx := B.exec
  have hb := B.bytes
  have hr := B.returns
  have hts := atoms_spec (ws := wsJ6_bitCount_0f7a4) B.pre
  have hown : s.vm.findClass RJ6 = some m.cls := findClass_of_methodNamed B.named
  have hlocks := B.notSynchronized
  have hl := lv_entry ([.int x]) (n := 1) (Nat.le_of_ble_eq_true rfl)
  rw [lg_entry_eq]
  generalize (lg_sl ([.int x]) ++ List.replicate (1 - (lg_sl ([.int x])).length) Slot.unset).toArray = ls at hl ⊢
  have hl : lv_has ls 1 [(0, .int x)] := hl
  refine lv_iload_n hx hb dJ6_bitCount_0f7a4_0 rfl (lv_at hl 0 rfl) ?_
  refine lv_iload_n hx hb dJ6_bitCount_0f7a4_1 rfl (lv_at hl 0 rfl) ?_
  refine lv_iconst (v := (1 : Int32)) hx hb dJ6_bitCount_0f7a4_2 (by decide) ?_
  refine lv_iushr (v := (x.toUInt32 >>> ((1 : Int32).toUInt32 &&& Int32.toUInt32 31)).toInt32) hx hb dJ6_bitCount_0f7a4_3 rfl ?_
  refine lv_ldcw (v := (1431655765 : Int32)) hx hb hown (hts (.constant RJ6 265 (1431655765)) (List.mem_of_getElem? (i := 1) rfl)) dJ6_bitCount_0f7a4_4 ?_
  refine lv_iand hx hb dJ6_bitCount_0f7a4_7 ?_
  refine lv_isub hx hb dJ6_bitCount_0f7a4_8 ?_
  refine lv_istore_n (lv' := [(0, .int (x - (((x.toUInt32 >>> ((1 : Int32).toUInt32 &&& Int32.toUInt32 31)).toInt32) &&& (1431655765 : Int32))))]) hx hb dJ6_bitCount_0f7a4_9 rfl hl (by decide) rfl (fun ls hl => ?_)
  refine lv_iload_n hx hb dJ6_bitCount_0f7a4_10 rfl (lv_at hl 0 rfl) ?_
  refine lv_ldcw (v := (858993459 : Int32)) hx hb hown (hts (.constant RJ6 266 (858993459)) (List.mem_of_getElem? (i := 2) rfl)) dJ6_bitCount_0f7a4_11 ?_
  refine lv_iand hx hb dJ6_bitCount_0f7a4_14 ?_
  refine lv_iload_n hx hb dJ6_bitCount_0f7a4_15 rfl (lv_at hl 0 rfl) ?_
  refine lv_iconst (v := (2 : Int32)) hx hb dJ6_bitCount_0f7a4_16 (by decide) ?_
  refine lv_iushr (v := ((x - (((x.toUInt32 >>> ((1 : Int32).toUInt32 &&& Int32.toUInt32 31)).toInt32) &&& (1431655765 : Int32))).toUInt32 >>> ((2 : Int32).toUInt32 &&& Int32.toUInt32 31)).toInt32) hx hb dJ6_bitCount_0f7a4_17 rfl ?_
  refine lv_ldcw (v := (858993459 : Int32)) hx hb hown (hts (.constant RJ6 266 (858993459)) (List.mem_of_getElem? (i := 2) rfl)) dJ6_bitCount_0f7a4_18 ?_
  refine lv_iand hx hb dJ6_bitCount_0f7a4_21 ?_
  refine lv_iadd hx hb dJ6_bitCount_0f7a4_22 ?_
  refine lv_istore_n (lv' := [(0, .int (((x - (((x.toUInt32 >>> ((1 : Int32).toUInt32 &&& Int32.toUInt32 31)).toInt32) &&& (1431655765 : Int32))) &&& (858993459 : Int32)) + ((((x - (((x.toUInt32 >>> ((1 : Int32).toUInt32 &&& Int32.toUInt32 31)).toInt32) &&& (1431655765 : Int32))).toUInt32 >>> ((2 : Int32).toUInt32 &&& Int32.toUInt32 31)).toInt32) &&& (858993459 : Int32))))]) hx hb dJ6_bitCount_0f7a4_23 rfl hl (by decide) rfl (fun ls hl => ?_)
  refine lv_iload_n hx hb dJ6_bitCount_0f7a4_24 rfl (lv_at hl 0 rfl) ?_
  refine lv_iload_n hx hb dJ6_bitCount_0f7a4_25 rfl (lv_at hl 0 rfl) ?_
  refine lv_iconst (v := (4 : Int32)) hx hb dJ6_bitCount_0f7a4_26 (by decide) ?_
  refine lv_iushr (v := ((((x - (((x.toUInt32 >>> ((1 : Int32).toUInt32 &&& Int32.toUInt32 31)).toInt32) &&& (1431655765 : Int32))) &&& (858993459 : Int32)) + ((((x - (((x.toUInt32 >>> ((1 : Int32).toUInt32 &&& Int32.toUInt32 31)).toInt32) &&& (1431655765 : Int32))).toUInt32 >>> ((2 : Int32).toUInt32 &&& Int32.toUInt32 31)).toInt32) &&& (858993459 : Int32))).toUInt32 >>> ((4 : Int32).toUInt32 &&& Int32.toUInt32 31)).toInt32) hx hb dJ6_bitCount_0f7a4_27 rfl ?_
  refine lv_iadd hx hb dJ6_bitCount_0f7a4_28 ?_
  refine lv_ldcw (v := (252645135 : Int32)) hx hb hown (hts (.constant RJ6 267 (252645135)) (List.mem_of_getElem? (i := 3) rfl)) dJ6_bitCount_0f7a4_29 ?_
  refine lv_iand hx hb dJ6_bitCount_0f7a4_32 ?_
  refine lv_istore_n (lv' := [(0, .int (((((x - (((x.toUInt32 >>> ((1 : Int32).toUInt32 &&& Int32.toUInt32 31)).toInt32) &&& (1431655765 : Int32))) &&& (858993459 : Int32)) + ((((x - (((x.toUInt32 >>> ((1 : Int32).toUInt32 &&& Int32.toUInt32 31)).toInt32) &&& (1431655765 : Int32))).toUInt32 >>> ((2 : Int32).toUInt32 &&& Int32.toUInt32 31)).toInt32) &&& (858993459 : Int32))) + (((((x - (((x.toUInt32 >>> ((1 : Int32).toUInt32 &&& Int32.toUInt32 31)).toInt32) &&& (1431655765 : Int32))) &&& (858993459 : Int32)) + ((((x - (((x.toUInt32 >>> ((1 : Int32).toUInt32 &&& Int32.toUInt32 31)).toInt32) &&& (1431655765 : Int32))).toUInt32 >>> ((2 : Int32).toUInt32 &&& Int32.toUInt32 31)).toInt32) &&& (858993459 : Int32))).toUInt32 >>> ((4 : Int32).toUInt32 &&& Int32.toUInt32 31)).toInt32)) &&& (252645135 : Int32)))]) hx hb dJ6_bitCount_0f7a4_33 rfl hl (by decide) rfl (fun ls hl => ?_)
  refine lv_iload_n hx hb dJ6_bitCount_0f7a4_34 rfl (lv_at hl 0 rfl) ?_
  refine lv_iload_n hx hb dJ6_bitCount_0f7a4_35 rfl (lv_at hl 0 rfl) ?_
  refine lv_bipush (v := (8 : Int32)) hx hb dJ6_bitCount_0f7a4_36 (by decide) ?_
  refine lv_iushr (v := ((((((x - (((x.toUInt32 >>> ((1 : Int32).toUInt32 &&& Int32.toUInt32 31)).toInt32) &&& (1431655765 : Int32))) &&& (858993459 : Int32)) + ((((x - (((x.toUInt32 >>> ((1 : Int32).toUInt32 &&& Int32.toUInt32 31)).toInt32) &&& (1431655765 : Int32))).toUInt32 >>> ((2 : Int32).toUInt32 &&& Int32.toUInt32 31)).toInt32) &&& (858993459 : Int32))) + (((((x - (((x.toUInt32 >>> ((1 : Int32).toUInt32 &&& Int32.toUInt32 31)).toInt32) &&& (1431655765 : Int32))) &&& (858993459 : Int32)) + ((((x - (((x.toUInt32 >>> ((1 : Int32).toUInt32 &&& Int32.toUInt32 31)).toInt32) &&& (1431655765 : Int32))).toUInt32 >>> ((2 : Int32).toUInt32 &&& Int32.toUInt32 31)).toInt32) &&& (858993459 : Int32))).toUInt32 >>> ((4 : Int32).toUInt32 &&& Int32.toUInt32 31)).toInt32)) &&& (252645135 : Int32)).toUInt32 >>> ((8 : Int32).toUInt32 &&& Int32.toUInt32 31)).toInt32) hx hb dJ6_bitCount_0f7a4_38 rfl ?_
  refine lv_iadd hx hb dJ6_bitCount_0f7a4_39 ?_
  refine lv_istore_n (lv' := [(0, .int ((((((x - (((x.toUInt32 >>> ((1 : Int32).toUInt32 &&& Int32.toUInt32 31)).toInt32) &&& (1431655765 : Int32))) &&& (858993459 : Int32)) + ((((x - (((x.toUInt32 >>> ((1 : Int32).toUInt32 &&& Int32.toUInt32 31)).toInt32) &&& (1431655765 : Int32))).toUInt32 >>> ((2 : Int32).toUInt32 &&& Int32.toUInt32 31)).toInt32) &&& (858993459 : Int32))) + (((((x - (((x.toUInt32 >>> ((1 : Int32).toUInt32 &&& Int32.toUInt32 31)).toInt32) &&& (1431655765 : Int32))) &&& (858993459 : Int32)) + ((((x - (((x.toUInt32 >>> ((1 : Int32).toUInt32 &&& Int32.toUInt32 31)).toInt32) &&& (1431655765 : Int32))).toUInt32 >>> ((2 : Int32).toUInt32 &&& Int32.toUInt32 31)).toInt32) &&& (858993459 : Int32))).toUInt32 >>> ((4 : Int32).toUInt32 &&& Int32.toUInt32 31)).toInt32)) &&& (252645135 : Int32)) + (((((((x - (((x.toUInt32 >>> ((1 : Int32).toUInt32 &&& Int32.toUInt32 31)).toInt32) &&& (1431655765 : Int32))) &&& (858993459 : Int32)) + ((((x - (((x.toUInt32 >>> ((1 : Int32).toUInt32 &&& Int32.toUInt32 31)).toInt32) &&& (1431655765 : Int32))).toUInt32 >>> ((2 : Int32).toUInt32 &&& Int32.toUInt32 31)).toInt32) &&& (858993459 : Int32))) + (((((x - (((x.toUInt32 >>> ((1 : Int32).toUInt32 &&& Int32.toUInt32 31)).toInt32) &&& (1431655765 : Int32))) &&& (858993459 : Int32)) + ((((x - (((x.toUInt32 >>> ((1 : Int32).toUInt32 &&& Int32.toUInt32 31)).toInt32) &&& (1431655765 : Int32))).toUInt32 >>> ((2 : Int32).toUInt32 &&& Int32.toUInt32 31)).toInt32) &&& (858993459 : Int32))).toUInt32 >>> ((4 : Int32).toUInt32 &&& Int32.toUInt32 31)).toInt32)) &&& (252645135 : Int32)).toUInt32 >>> ((8 : Int32).toUInt32 &&& Int32.toUInt32 31)).toInt32)))]) hx hb dJ6_bitCount_0f7a4_40 rfl hl (by decide) rfl (fun ls hl => ?_)
  refine lv_iload_n hx hb dJ6_bitCount_0f7a4_41 rfl (lv_at hl 0 rfl) ?_
  refine lv_iload_n hx hb dJ6_bitCount_0f7a4_42 rfl (lv_at hl 0 rfl) ?_
  refine lv_bipush (v := (16 : Int32)) hx hb dJ6_bitCount_0f7a4_43 (by decide) ?_
  refine lv_iushr (v := (((((((x - (((x.toUInt32 >>> ((1 : Int32).toUInt32 &&& Int32.toUInt32 31)).toInt32) &&& (1431655765 : Int32))) &&& (858993459 : Int32)) + ((((x - (((x.toUInt32 >>> ((1 : Int32).toUInt32 &&& Int32.toUInt32 31)).toInt32) &&& (1431655765 : Int32))).toUInt32 >>> ((2 : Int32).toUInt32 &&& Int32.toUInt32 31)).toInt32) &&& (858993459 : Int32))) + (((((x - (((x.toUInt32 >>> ((1 : Int32).toUInt32 &&& Int32.toUInt32 31)).toInt32) &&& (1431655765 : Int32))) &&& (858993459 : Int32)) + ((((x - (((x.toUInt32 >>> ((1 : Int32).toUInt32 &&& Int32.toUInt32 31)).toInt32) &&& (1431655765 : Int32))).toUInt32 >>> ((2 : Int32).toUInt32 &&& Int32.toUInt32 31)).toInt32) &&& (858993459 : Int32))).toUInt32 >>> ((4 : Int32).toUInt32 &&& Int32.toUInt32 31)).toInt32)) &&& (252645135 : Int32)) + (((((((x - (((x.toUInt32 >>> ((1 : Int32).toUInt32 &&& Int32.toUInt32 31)).toInt32) &&& (1431655765 : Int32))) &&& (858993459 : Int32)) + ((((x - (((x.toUInt32 >>> ((1 : Int32).toUInt32 &&& Int32.toUInt32 31)).toInt32) &&& (1431655765 : Int32))).toUInt32 >>> ((2 : Int32).toUInt32 &&& Int32.toUInt32 31)).toInt32) &&& (858993459 : Int32))) + (((((x - (((x.toUInt32 >>> ((1 : Int32).toUInt32 &&& Int32.toUInt32 31)).toInt32) &&& (1431655765 : Int32))) &&& (858993459 : Int32)) + ((((x - (((x.toUInt32 >>> ((1 : Int32).toUInt32 &&& Int32.toUInt32 31)).toInt32) &&& (1431655765 : Int32))).toUInt32 >>> ((2 : Int32).toUInt32 &&& Int32.toUInt32 31)).toInt32) &&& (858993459 : Int32))).toUInt32 >>> ((4 : Int32).toUInt32 &&& Int32.toUInt32 31)).toInt32)) &&& (252645135 : Int32)).toUInt32 >>> ((8 : Int32).toUInt32 &&& Int32.toUInt32 31)).toInt32)).toUInt32 >>> ((16 : Int32).toUInt32 &&& Int32.toUInt32 31)).toInt32) hx hb dJ6_bitCount_0f7a4_45 rfl ?_
  refine lv_iadd hx hb dJ6_bitCount_0f7a4_46 ?_
  refine lv_istore_n (lv' := [(0, .int (((((((x - (((x.toUInt32 >>> ((1 : Int32).toUInt32 &&& Int32.toUInt32 31)).toInt32) &&& (1431655765 : Int32))) &&& (858993459 : Int32)) + ((((x - (((x.toUInt32 >>> ((1 : Int32).toUInt32 &&& Int32.toUInt32 31)).toInt32) &&& (1431655765 : Int32))).toUInt32 >>> ((2 : Int32).toUInt32 &&& Int32.toUInt32 31)).toInt32) &&& (858993459 : Int32))) + (((((x - (((x.toUInt32 >>> ((1 : Int32).toUInt32 &&& Int32.toUInt32 31)).toInt32) &&& (1431655765 : Int32))) &&& (858993459 : Int32)) + ((((x - (((x.toUInt32 >>> ((1 : Int32).toUInt32 &&& Int32.toUInt32 31)).toInt32) &&& (1431655765 : Int32))).toUInt32 >>> ((2 : Int32).toUInt32 &&& Int32.toUInt32 31)).toInt32) &&& (858993459 : Int32))).toUInt32 >>> ((4 : Int32).toUInt32 &&& Int32.toUInt32 31)).toInt32)) &&& (252645135 : Int32)) + (((((((x - (((x.toUInt32 >>> ((1 : Int32).toUInt32 &&& Int32.toUInt32 31)).toInt32) &&& (1431655765 : Int32))) &&& (858993459 : Int32)) + ((((x - (((x.toUInt32 >>> ((1 : Int32).toUInt32 &&& Int32.toUInt32 31)).toInt32) &&& (1431655765 : Int32))).toUInt32 >>> ((2 : Int32).toUInt32 &&& Int32.toUInt32 31)).toInt32) &&& (858993459 : Int32))) + (((((x - (((x.toUInt32 >>> ((1 : Int32).toUInt32 &&& Int32.toUInt32 31)).toInt32) &&& (1431655765 : Int32))) &&& (858993459 : Int32)) + ((((x - (((x.toUInt32 >>> ((1 : Int32).toUInt32 &&& Int32.toUInt32 31)).toInt32) &&& (1431655765 : Int32))).toUInt32 >>> ((2 : Int32).toUInt32 &&& Int32.toUInt32 31)).toInt32) &&& (858993459 : Int32))).toUInt32 >>> ((4 : Int32).toUInt32 &&& Int32.toUInt32 31)).toInt32)) &&& (252645135 : Int32)).toUInt32 >>> ((8 : Int32).toUInt32 &&& Int32.toUInt32 31)).toInt32)) + ((((((((x - (((x.toUInt32 >>> ((1 : Int32).toUInt32 &&& Int32.toUInt32 31)).toInt32) &&& (1431655765 : Int32))) &&& (858993459 : Int32)) + ((((x - (((x.toUInt32 >>> ((1 : Int32).toUInt32 &&& Int32.toUInt32 31)).toInt32) &&& (1431655765 : Int32))).toUInt32 >>> ((2 : Int32).toUInt32 &&& Int32.toUInt32 31)).toInt32) &&& (858993459 : Int32))) + (((((x - (((x.toUInt32 >>> ((1 : Int32).toUInt32 &&& Int32.toUInt32 31)).toInt32) &&& (1431655765 : Int32))) &&& (858993459 : Int32)) + ((((x - (((x.toUInt32 >>> ((1 : Int32).toUInt32 &&& Int32.toUInt32 31)).toInt32) &&& (1431655765 : Int32))).toUInt32 >>> ((2 : Int32).toUInt32 &&& Int32.toUInt32 31)).toInt32) &&& (858993459 : Int32))).toUInt32 >>> ((4 : Int32).toUInt32 &&& Int32.toUInt32 31)).toInt32)) &&& (252645135 : Int32)) + (((((((x - (((x.toUInt32 >>> ((1 : Int32).toUInt32 &&& Int32.toUInt32 31)).toInt32) &&& (1431655765 : Int32))) &&& (858993459 : Int32)) + ((((x - (((x.toUInt32 >>> ((1 : Int32).toUInt32 &&& Int32.toUInt32 31)).toInt32) &&& (1431655765 : Int32))).toUInt32 >>> ((2 : Int32).toUInt32 &&& Int32.toUInt32 31)).toInt32) &&& (858993459 : Int32))) + (((((x - (((x.toUInt32 >>> ((1 : Int32).toUInt32 &&& Int32.toUInt32 31)).toInt32) &&& (1431655765 : Int32))) &&& (858993459 : Int32)) + ((((x - (((x.toUInt32 >>> ((1 : Int32).toUInt32 &&& Int32.toUInt32 31)).toInt32) &&& (1431655765 : Int32))).toUInt32 >>> ((2 : Int32).toUInt32 &&& Int32.toUInt32 31)).toInt32) &&& (858993459 : Int32))).toUInt32 >>> ((4 : Int32).toUInt32 &&& Int32.toUInt32 31)).toInt32)) &&& (252645135 : Int32)).toUInt32 >>> ((8 : Int32).toUInt32 &&& Int32.toUInt32 31)).toInt32)).toUInt32 >>> ((16 : Int32).toUInt32 &&& Int32.toUInt32 31)).toInt32)))]) hx hb dJ6_bitCount_0f7a4_47 rfl hl (by decide) rfl (fun ls hl => ?_)
  refine lv_iload_n hx hb dJ6_bitCount_0f7a4_48 rfl (lv_at hl 0 rfl) ?_
  refine lv_bipush (v := (63 : Int32)) hx hb dJ6_bitCount_0f7a4_49 (by decide) ?_
  refine lv_iand hx hb dJ6_bitCount_0f7a4_51 ?_
  exact W.iret (v := (((((((x - (((x.toUInt32 >>> ((1 : Int32).toUInt32 &&& Int32.toUInt32 31)).toInt32) &&& (1431655765 : Int32))) &&& (858993459 : Int32)) + ((((x - (((x.toUInt32 >>> ((1 : Int32).toUInt32 &&& Int32.toUInt32 31)).toInt32) &&& (1431655765 : Int32))).toUInt32 >>> ((2 : Int32).toUInt32 &&& Int32.toUInt32 31)).toInt32) &&& (858993459 : Int32))) + (((((x - (((x.toUInt32 >>> ((1 : Int32).toUInt32 &&& Int32.toUInt32 31)).toInt32) &&& (1431655765 : Int32))) &&& (858993459 : Int32)) + ((((x - (((x.toUInt32 >>> ((1 : Int32).toUInt32 &&& Int32.toUInt32 31)).toInt32) &&& (1431655765 : Int32))).toUInt32 >>> ((2 : Int32).toUInt32 &&& Int32.toUInt32 31)).toInt32) &&& (858993459 : Int32))).toUInt32 >>> ((4 : Int32).toUInt32 &&& Int32.toUInt32 31)).toInt32)) &&& (252645135 : Int32)) + (((((((x - (((x.toUInt32 >>> ((1 : Int32).toUInt32 &&& Int32.toUInt32 31)).toInt32) &&& (1431655765 : Int32))) &&& (858993459 : Int32)) + ((((x - (((x.toUInt32 >>> ((1 : Int32).toUInt32 &&& Int32.toUInt32 31)).toInt32) &&& (1431655765 : Int32))).toUInt32 >>> ((2 : Int32).toUInt32 &&& Int32.toUInt32 31)).toInt32) &&& (858993459 : Int32))) + (((((x - (((x.toUInt32 >>> ((1 : Int32).toUInt32 &&& Int32.toUInt32 31)).toInt32) &&& (1431655765 : Int32))) &&& (858993459 : Int32)) + ((((x - (((x.toUInt32 >>> ((1 : Int32).toUInt32 &&& Int32.toUInt32 31)).toInt32) &&& (1431655765 : Int32))).toUInt32 >>> ((2 : Int32).toUInt32 &&& Int32.toUInt32 31)).toInt32) &&& (858993459 : Int32))).toUInt32 >>> ((4 : Int32).toUInt32 &&& Int32.toUInt32 31)).toInt32)) &&& (252645135 : Int32)).toUInt32 >>> ((8 : Int32).toUInt32 &&& Int32.toUInt32 31)).toInt32)) + ((((((((x - (((x.toUInt32 >>> ((1 : Int32).toUInt32 &&& Int32.toUInt32 31)).toInt32) &&& (1431655765 : Int32))) &&& (858993459 : Int32)) + ((((x - (((x.toUInt32 >>> ((1 : Int32).toUInt32 &&& Int32.toUInt32 31)).toInt32) &&& (1431655765 : Int32))).toUInt32 >>> ((2 : Int32).toUInt32 &&& Int32.toUInt32 31)).toInt32) &&& (858993459 : Int32))) + (((((x - (((x.toUInt32 >>> ((1 : Int32).toUInt32 &&& Int32.toUInt32 31)).toInt32) &&& (1431655765 : Int32))) &&& (858993459 : Int32)) + ((((x - (((x.toUInt32 >>> ((1 : Int32).toUInt32 &&& Int32.toUInt32 31)).toInt32) &&& (1431655765 : Int32))).toUInt32 >>> ((2 : Int32).toUInt32 &&& Int32.toUInt32 31)).toInt32) &&& (858993459 : Int32))).toUInt32 >>> ((4 : Int32).toUInt32 &&& Int32.toUInt32 31)).toInt32)) &&& (252645135 : Int32)) + (((((((x - (((x.toUInt32 >>> ((1 : Int32).toUInt32 &&& Int32.toUInt32 31)).toInt32) &&& (1431655765 : Int32))) &&& (858993459 : Int32)) + ((((x - (((x.toUInt32 >>> ((1 : Int32).toUInt32 &&& Int32.toUInt32 31)).toInt32) &&& (1431655765 : Int32))).toUInt32 >>> ((2 : Int32).toUInt32 &&& Int32.toUInt32 31)).toInt32) &&& (858993459 : Int32))) + (((((x - (((x.toUInt32 >>> ((1 : Int32).toUInt32 &&& Int32.toUInt32 31)).toInt32) &&& (1431655765 : Int32))) &&& (858993459 : Int32)) + ((((x - (((x.toUInt32 >>> ((1 : Int32).toUInt32 &&& Int32.toUInt32 31)).toInt32) &&& (1431655765 : Int32))).toUInt32 >>> ((2 : Int32).toUInt32 &&& Int32.toUInt32 31)).toInt32) &&& (858993459 : Int32))).toUInt32 >>> ((4 : Int32).toUInt32 &&& Int32.toUInt32 31)).toInt32)) &&& (252645135 : Int32)).toUInt32 >>> ((8 : Int32).toUInt32 &&& Int32.toUInt32 31)).toInt32)).toUInt32 >>> ((16 : Int32).toUInt32 &&& Int32.toUInt32 31)).toInt32)) &&& (63 : Int32)) hx hb hr (fun t ht hW => ⟨(((((((x - (((x.toUInt32 >>> ((1 : Int32).toUInt32 &&& Int32.toUInt32 31)).toInt32) &&& (1431655765 : Int32))) &&& (858993459 : Int32)) + ((((x - (((x.toUInt32 >>> ((1 : Int32).toUInt32 &&& Int32.toUInt32 31)).toInt32) &&& (1431655765 : Int32))).toUInt32 >>> ((2 : Int32).toUInt32 &&& Int32.toUInt32 31)).toInt32) &&& (858993459 : Int32))) + (((((x - (((x.toUInt32 >>> ((1 : Int32).toUInt32 &&& Int32.toUInt32 31)).toInt32) &&& (1431655765 : Int32))) &&& (858993459 : Int32)) + ((((x - (((x.toUInt32 >>> ((1 : Int32).toUInt32 &&& Int32.toUInt32 31)).toInt32) &&& (1431655765 : Int32))).toUInt32 >>> ((2 : Int32).toUInt32 &&& Int32.toUInt32 31)).toInt32) &&& (858993459 : Int32))).toUInt32 >>> ((4 : Int32).toUInt32 &&& Int32.toUInt32 31)).toInt32)) &&& (252645135 : Int32)) + (((((((x - (((x.toUInt32 >>> ((1 : Int32).toUInt32 &&& Int32.toUInt32 31)).toInt32) &&& (1431655765 : Int32))) &&& (858993459 : Int32)) + ((((x - (((x.toUInt32 >>> ((1 : Int32).toUInt32 &&& Int32.toUInt32 31)).toInt32) &&& (1431655765 : Int32))).toUInt32 >>> ((2 : Int32).toUInt32 &&& Int32.toUInt32 31)).toInt32) &&& (858993459 : Int32))) + (((((x - (((x.toUInt32 >>> ((1 : Int32).toUInt32 &&& Int32.toUInt32 31)).toInt32) &&& (1431655765 : Int32))) &&& (858993459 : Int32)) + ((((x - (((x.toUInt32 >>> ((1 : Int32).toUInt32 &&& Int32.toUInt32 31)).toInt32) &&& (1431655765 : Int32))).toUInt32 >>> ((2 : Int32).toUInt32 &&& Int32.toUInt32 31)).toInt32) &&& (858993459 : Int32))).toUInt32 >>> ((4 : Int32).toUInt32 &&& Int32.toUInt32 31)).toInt32)) &&& (252645135 : Int32)).toUInt32 >>> ((8 : Int32).toUInt32 &&& Int32.toUInt32 31)).toInt32)) + ((((((((x - (((x.toUInt32 >>> ((1 : Int32).toUInt32 &&& Int32.toUInt32 31)).toInt32) &&& (1431655765 : Int32))) &&& (858993459 : Int32)) + ((((x - (((x.toUInt32 >>> ((1 : Int32).toUInt32 &&& Int32.toUInt32 31)).toInt32) &&& (1431655765 : Int32))).toUInt32 >>> ((2 : Int32).toUInt32 &&& Int32.toUInt32 31)).toInt32) &&& (858993459 : Int32))) + (((((x - (((x.toUInt32 >>> ((1 : Int32).toUInt32 &&& Int32.toUInt32 31)).toInt32) &&& (1431655765 : Int32))) &&& (858993459 : Int32)) + ((((x - (((x.toUInt32 >>> ((1 : Int32).toUInt32 &&& Int32.toUInt32 31)).toInt32) &&& (1431655765 : Int32))).toUInt32 >>> ((2 : Int32).toUInt32 &&& Int32.toUInt32 31)).toInt32) &&& (858993459 : Int32))).toUInt32 >>> ((4 : Int32).toUInt32 &&& Int32.toUInt32 31)).toInt32)) &&& (252645135 : Int32)) + (((((((x - (((x.toUInt32 >>> ((1 : Int32).toUInt32 &&& Int32.toUInt32 31)).toInt32) &&& (1431655765 : Int32))) &&& (858993459 : Int32)) + ((((x - (((x.toUInt32 >>> ((1 : Int32).toUInt32 &&& Int32.toUInt32 31)).toInt32) &&& (1431655765 : Int32))).toUInt32 >>> ((2 : Int32).toUInt32 &&& Int32.toUInt32 31)).toInt32) &&& (858993459 : Int32))) + (((((x - (((x.toUInt32 >>> ((1 : Int32).toUInt32 &&& Int32.toUInt32 31)).toInt32) &&& (1431655765 : Int32))) &&& (858993459 : Int32)) + ((((x - (((x.toUInt32 >>> ((1 : Int32).toUInt32 &&& Int32.toUInt32 31)).toInt32) &&& (1431655765 : Int32))).toUInt32 >>> ((2 : Int32).toUInt32 &&& Int32.toUInt32 31)).toInt32) &&& (858993459 : Int32))).toUInt32 >>> ((4 : Int32).toUInt32 &&& Int32.toUInt32 31)).toInt32)) &&& (252645135 : Int32)).toUInt32 >>> ((8 : Int32).toUInt32 &&& Int32.toUInt32 31)).toInt32)).toUInt32 >>> ((16 : Int32).toUInt32 &&& Int32.toUInt32 31)).toInt32)) &&& (63 : Int32), rfl, bc_all x hT, ht⟩) (fun _ h9 => by cases h9) dJ6_bitCount_0f7a4_52
set_option maxHeartbeats 1000000 in
set_option maxRecDepth 100000 in
theorem mt_X5_nestF (l : Launch) (G : gG) (h : Nat → Nat) (u : oS) (lt : Int64) (sj : Nat → Int64) (nl : Nat) (hnl : u.1 4 = nI nl) (hnl120 : nl ≤ 120) : Met l yX5_nest wsX5_nest ({ frames := 1, cells := 0, slots := 0, locals := 22 }) (preR G (mw G h u lt sj) [.ref (h 0)]) (vp_Si (fun r : Int32 => r = nI (nst (u.2 7) nl))) 0 0 (fun _ => False) := by
  refine Met.ofW (cc := cX5_nest) (maxL := 4) (ret := (some .int)) (by decide) rfl ?_
  intro p e s m args below meth c s₁ B hml hv
  obtain ⟨ha, hP, hK, hN⟩ := hv
  subst ha
  have hx := B.exec
  have hb := B.bytes
  have hr := B.returns
  have hts := atoms_spec (ws := wsX5_nest) B.pre
  have hown : s.vm.findClass RX5 = some m.cls := findClass_of_methodNamed B.named
  have hlocks := B.notSynchronized
  have hiX5 : ∀ w ∈ wsX50, w ∈ wsX5_nest := fun w h9 => List.mem_cons_of_mem _ (List.mem_append_right _ (h9))
  have k175 := hts (.fieldLink RX5 175 "WovenHistoryModel" "lines" "I") (List.mem_of_getElem? (i := 1) rfl)
  have k25 := hts (.fieldLink RX5 25 "WovenHistoryModel" "took" "[I") (List.mem_of_getElem? (i := 2) rfl)
  have hl := lv_entry ([.ref (h 0)]) (n := 4) (Nat.le_of_ble_eq_true rfl)
  rw [lg_entry_eq]
  generalize (lg_sl ([.ref (h 0)]) ++ List.replicate (4 - (lg_sl ([.ref (h 0)])).length) Slot.unset).toArray = ls at hl ⊢
  have hl : lv_has ls 4 [(0, .ref (h 0))] := hl
  refine lv_iconst (v := nI 0) hx hb dX5_nest_0 (by decide) ?_
  refine lv_istore_n (lv' := [(1, .int (nI 0)), (0, .ref (h 0))]) hx hb dX5_nest_1 rfl hl (by decide) rfl (fun ls hl => ?_)
  refine lv_iconst (v := nI 0) hx hb dX5_nest_2 (by decide) ?_
  refine lv_istore_n (lv' := [(2, .int (nI 0)), (1, .int (nI 0)), (0, .ref (h 0))]) hx hb dX5_nest_3 rfl hl (by decide) rfl (fun ls hl => ?_)
  have LP4 : ∀ (n4m : Nat), ∀ (k : Nat) (j : Nat) (hk : k ≤ nl) (hj : j = nst (u.2 7) k) (hj2 : j ≤ 25), (nl - k < n4m) → ∀ (ls : Array Slot), lv_has ls 4 [(0, .ref (h 0)), (1, .int (nI j)), (2, .int (nI k))] → W p l e (headSpec wsX5_nest ({ frames := 1, cells := 0, slots := 0, locals := 22 })).room s m ([.ref (h 0)] : List Value).toArray below meth c s.heap [] 0 0 (MQ below (vp_Si (fun r : Int32 => r = nI (nst (u.2 7) nl))) ([.ref (h 0)] : List Value).toArray s 0 0 (fun _ => False)) (F0 m 4 ls []) := by
    intro n4m
    induction n4m with
    | zero => intro k j hk hj hj2 hmu ls hl; exact absurd hmu (Nat.not_lt_zero _)
    | succ n4m ih4 =>
      intro k j hk hj hj2 hmu ls hl
      refine lv_iload_n hx hb dX5_nest_4 rfl (lv_at hl 2 rfl) ?_
      refine lv_aload_n hx hb dX5_nest_5 rfl (lv_at hl 0 rfl) ?_
      refine va_get (D := gD G) (ci := 5) (v := .int (u.1 4)) (C := RX5) (T := TX5) (N := 38) hx hb hts hiX5 hown hK hP 0 rfl rfl 4 (by decide) k175 (fun _ h9 => h9) rfl dX5_nest_6 ?_
      refine topE hnl ?_
      refine lv_icmp_ge (tgt := 41) hx hb dX5_nest_9 (by decide) (fun c9 => ?_) (fun c9 => ?_)
      · skip
        have n9 : nl ≤ k := (nI_leI (a := nl) (b := k) (by omega) (by omega)).mp c9
        refine lv_iload_n hx hb dX5_nest_41 rfl (lv_at hl 1 rfl) ?_
        exact W.iret (v := nI j) hx hb hr (fun t ht hW => ⟨nI j, rfl, by rw [hj, show k = nl by omega], ht⟩) (fun _ h9 => by cases h9) dX5_nest_42
      · skip
        have n9 : ¬ (nl ≤ k) := fun q9 => c9 ((nI_leI (a := nl) (b := k) (by omega) (by omega)).mpr q9)
        refine lv_iconst (v := nI 1) hx hb dX5_nest_12 (by decide) ?_
        refine lv_aload_n hx hb dX5_nest_13 rfl (lv_at hl 0 rfl) ?_
        refine va_get (D := gD G) (ci := 5) (v := .ref (h 7)) (C := RX5) (T := TX5) (N := 38) hx hb hts hiX5 hown hK hP 0 rfl rfl 7 (by decide) k25 (fun _ h9 => h9) rfl dX5_nest_14 ?_
        refine lv_iload_n hx hb dX5_nest_17 rfl (lv_at hl 2 rfl) ?_
        refine ialdN (f := u.2 7) (n := 120) (k := k) hx hb hK hP 6 rfl rfl (by omega) dX5_nest_18 ?_
        refine cSi (As := [.int ((u.2 7) k)]) (rest := [.int (nI 1)]) ⟨hx, hb, hml, hown, hts⟩ (mt_X5_bitsF l ((u.2 7) k)) (va_cwS 1 hts gX5_nest_X5_bits rfl rfl rfl hd_X5_bits ⟨Nat.le_of_ble_eq_true rfl, Nat.le_of_ble_eq_true rfl⟩) rfl hl.1 rfl (Nat.le_of_ble_eq_true rfl) ⟨Nat.zero_le _, Nat.zero_le _⟩ dX5_nest_19 (fun r19 hw19 => ?_)
        obtain rfl := hw19
        have hc19 := cnt_le (bt ((u.2 7) k)) 24
        refine lv_iadd hx hb dX5_nest_22 ?_
        refine topE (y := nI (1 + (cnt (bt ((u.2 7) k)) 24))) (nI_add 1 (cnt (bt ((u.2 7) k)) 24)) ?_
        refine lv_istore_n (lv' := [(3, .int (nI (1 + (cnt (bt ((u.2 7) k)) 24)))), (0, .ref (h 0)), (1, .int (nI j)), (2, .int (nI k))]) hx hb dX5_nest_23 rfl hl (by decide) rfl (fun ls hl => ?_)
        refine lv_iload_n hx hb dX5_nest_24 rfl (lv_at hl 0 rfl) ?_
        refine lv_iload_n hx hb dX5_nest_25 rfl (lv_at hl 2 rfl) ?_
        refine lv_icmp_le (tgt := 33) hx hb dX5_nest_26 (by decide) (fun c26 => ?_) (fun c26 => ?_)
        · skip
          have n26 : (1 + (cnt (bt ((u.2 7) k)) 24)) ≤ j := (nI_leI (a := 1 + (cnt (bt ((u.2 7) k)) 24)) (b := j) (by omega) (by omega)).mp c26
          refine lv_iload_n hx hb dX5_nest_33 rfl (lv_at hl 2 rfl) ?_
          refine lv_istore_n (lv' := [(1, .int (nI j)), (3, .int (nI (1 + (cnt (bt ((u.2 7) k)) 24)))), (0, .ref (h 0)), (2, .int (nI k))]) hx hb dX5_nest_34 rfl hl (by decide) rfl (fun ls hl => ?_)
          refine lv_iinc (v := nI (k + 1)) (lv' := [(2, .int (nI (k + 1))), (1, .int (nI j)), (3, .int (nI (1 + (cnt (bt ((u.2 7) k)) 24)))), (0, .ref (h 0))]) hx hb dX5_nest_35 hl (k := 3) rfl (nI_1 k) (by decide) rfl (fun ls hl => ?_)
          refine lv_goto (tgt := 4) hx hb dX5_nest_38 (by decide) ?_
          exact ih4 (k + 1) j (by first | assumption | omega) (by first | (rw [nst, if_pos (by omega)]) | (rw [nst, if_neg (by omega)]; exact hj)) (by first | assumption | omega) (by omega) ls (lv_sub hl [3, 1, 0] rfl)
        · skip
          have n26 : ¬ ((1 + (cnt (bt ((u.2 7) k)) 24)) ≤ j) := fun q9 => c26 ((nI_leI (a := 1 + (cnt (bt ((u.2 7) k)) 24)) (b := j) (by omega) (by omega)).mpr q9)
          refine lv_iload_n hx hb dX5_nest_29 rfl (lv_at hl 0 rfl) ?_
          refine lv_goto (tgt := 34) hx hb dX5_nest_30 (by decide) ?_
          refine lv_istore_n (lv' := [(1, .int (nI (1 + (cnt (bt ((u.2 7) k)) 24)))), (3, .int (nI (1 + (cnt (bt ((u.2 7) k)) 24)))), (0, .ref (h 0)), (2, .int (nI k))]) hx hb dX5_nest_34 rfl hl (by decide) rfl (fun ls hl => ?_)
          refine lv_iinc (v := nI (k + 1)) (lv' := [(2, .int (nI (k + 1))), (1, .int (nI (1 + (cnt (bt ((u.2 7) k)) 24)))), (3, .int (nI (1 + (cnt (bt ((u.2 7) k)) 24)))), (0, .ref (h 0))]) hx hb dX5_nest_35 hl (k := 3) rfl (nI_1 k) (by decide) rfl (fun ls hl => ?_)
          refine lv_goto (tgt := 4) hx hb dX5_nest_38 (by decide) ?_
          exact ih4 (k + 1) (1 + (cnt (bt ((u.2 7) k)) 24)) (by first | assumption | omega) (by first | (rw [nst, if_pos (by omega)]) | (rw [nst, if_neg (by omega)]; exact hj)) (by first | assumption | omega) (by omega) ls (lv_sub hl [3, 1, 0] rfl)
  exact LP4 (nl - 0 + 1) 0 0 (by first | assumption | omega) (rfl) (by first | assumption | omega) (Nat.lt_succ_self _) ls (lv_sub hl [2, 1, 0] rfl)
set_option maxHeartbeats 1000000 in
set_option maxRecDepth 100000 in
theorem mt_X3_greatestNestingF (l : Launch) (G : gG) (h : Nat → Nat) (w : oS) (nl : Nat) (hnl : w.1 5 = nI nl) (hnl120 : nl ≤ 120) (hT8 : ∀ k, k < nl → T24 (w.2 8 k)) : Met l yX3_greatestNesting wsX3_greatestNesting ({ frames := 1, cells := 0, slots := 0, locals := 26 }) (preR G (wv G h w) [.ref (h 0)]) (vp_Si (fun r : Int32 => r = nI (nst (w.2 8) nl))) 0 0 (fun _ => False) := by
  refine Met.ofW (cc := cX3_greatestNesting) (maxL := 3) (ret := (some .int)) (by decide) rfl ?_
  intro p e s m args below meth c s₁ B hml hv
  obtain ⟨ha, hP, hK, hN⟩ := hv
  subst ha
  have hx := B.exec
  have hb := B.bytes
  have hr := B.returns
  have hts := atoms_spec (ws := wsX3_greatestNesting) B.pre
  have hown : s.vm.findClass RX3 = some m.cls := findClass_of_methodNamed B.named
  have hlocks := B.notSynchronized
  have hiX3 : ∀ w ∈ wsX30, w ∈ wsX3_greatestNesting := fun w h9 => List.mem_cons_of_mem _ (List.mem_append_right _ (h9))
  have k28 := hts (.fieldLink RX3 28 "WovenHistory$Weave" "lines" "I") (List.mem_of_getElem? (i := 1) rfl)
  have k37 := hts (.fieldLink RX3 37 "WovenHistory$Weave" "took" "[I") (List.mem_of_getElem? (i := 2) rfl)
  have hl := lv_entry ([.ref (h 0)]) (n := 3) (Nat.le_of_ble_eq_true rfl)
  rw [lg_entry_eq]
  generalize (lg_sl ([.ref (h 0)]) ++ List.replicate (3 - (lg_sl ([.ref (h 0)])).length) Slot.unset).toArray = ls at hl ⊢
  have hl : lv_has ls 3 [(0, .ref (h 0))] := hl
  refine lv_iconst (v := nI 0) hx hb dX3_greatestNesting_0 (by decide) ?_
  refine lv_istore_n (lv' := [(1, .int (nI 0)), (0, .ref (h 0))]) hx hb dX3_greatestNesting_1 rfl hl (by decide) rfl (fun ls hl => ?_)
  refine lv_iconst (v := nI 0) hx hb dX3_greatestNesting_2 (by decide) ?_
  refine lv_istore_n (lv' := [(2, .int (nI 0)), (1, .int (nI 0)), (0, .ref (h 0))]) hx hb dX3_greatestNesting_3 rfl hl (by decide) rfl (fun ls hl => ?_)
  have LP4 : ∀ (n4m : Nat), ∀ (k : Nat) (j : Nat) (hk : k ≤ nl) (hj : j = nst (w.2 8) k) (hj2 : j ≤ 25), (nl - k < n4m) → ∀ (ls : Array Slot), lv_has ls 3 [(0, .ref (h 0)), (1, .int (nI j)), (2, .int (nI k))] → W p l e (headSpec wsX3_greatestNesting ({ frames := 1, cells := 0, slots := 0, locals := 26 })).room s m ([.ref (h 0)] : List Value).toArray below meth c s.heap [] 0 0 (MQ below (vp_Si (fun r : Int32 => r = nI (nst (w.2 8) nl))) ([.ref (h 0)] : List Value).toArray s 0 0 (fun _ => False)) (F0 m 4 ls []) := by
    intro n4m
    induction n4m with
    | zero => intro k j hk hj hj2 hmu ls hl; exact absurd hmu (Nat.not_lt_zero _)
    | succ n4m ih4 =>
      intro k j hk hj hj2 hmu ls hl
      refine lv_iload_n hx hb dX3_greatestNesting_4 rfl (lv_at hl 2 rfl) ?_
      refine lv_aload_n hx hb dX3_greatestNesting_5 rfl (lv_at hl 0 rfl) ?_
      refine va_get (D := gD G) (ci := 3) (v := .int (w.1 5)) (C := RX3) (T := TX3) (N := 9) hx hb hts hiX3 hown hK hP 0 rfl rfl 5 (by decide) k28 (fun _ h9 => h9) rfl dX3_greatestNesting_6 ?_
      refine topE hnl ?_
      refine lv_icmp_ge (tgt := 34) hx hb dX3_greatestNesting_9 (by decide) (fun c9 => ?_) (fun c9 => ?_)
      · skip
        have n9 : nl ≤ k := (nI_leI (a := nl) (b := k) (by omega) (by omega)).mp c9
        refine lv_iload_n hx hb dX3_greatestNesting_34 rfl (lv_at hl 1 rfl) ?_
        exact W.iret (v := nI j) hx hb hr (fun t ht hW => ⟨nI j, rfl, by rw [hj, show k = nl by omega], ht⟩) (fun _ h9 => by cases h9) dX3_greatestNesting_35
      · skip
        have n9 : ¬ (nl ≤ k) := fun q9 => c9 ((nI_leI (a := nl) (b := k) (by omega) (by omega)).mpr q9)
        refine lv_iload_n hx hb dX3_greatestNesting_12 rfl (lv_at hl 1 rfl) ?_
        refine lv_iconst (v := nI 1) hx hb dX3_greatestNesting_13 (by decide) ?_
        refine lv_aload_n hx hb dX3_greatestNesting_14 rfl (lv_at hl 0 rfl) ?_
        refine va_get (D := gD G) (ci := 3) (v := .ref (h 8)) (C := RX3) (T := TX3) (N := 9) hx hb hts hiX3 hown hK hP 0 rfl rfl 8 (by decide) k37 (fun _ h9 => h9) rfl dX3_greatestNesting_15 ?_
        refine lv_iload_n hx hb dX3_greatestNesting_18 rfl (lv_at hl 2 rfl) ?_
        refine ialdN (f := w.2 8) (n := 120) (k := k) hx hb hK hP 7 rfl rfl (by omega) dX3_greatestNesting_19 ?_
        refine cSi (As := [.int ((w.2 8) k)]) (rest := [.int (nI 1), .int (nI j)]) ⟨hx, hb, hml, hown, hts⟩ (mt_J6_bitCountF l ((w.2 8) k) (hT8 k (by omega))) (va_cwS 1 hts gX3_greatestNesting_J6_bitCount_0f7a4 rfl rfl rfl hd_J6_bitCount_0f7a4 ⟨Nat.le_of_ble_eq_true rfl, Nat.le_of_ble_eq_true rfl⟩) rfl hl.1 rfl (Nat.le_of_ble_eq_true rfl) ⟨Nat.zero_le _, Nat.zero_le _⟩ dX3_greatestNesting_20 (fun r20 hw20 => ?_)
        obtain rfl := hw20
        have hc20 := cnt_le (bt ((w.2 8) k)) 24
        refine lv_iadd hx hb dX3_greatestNesting_23 ?_
        refine topE (y := nI (1 + (cnt (bt ((w.2 8) k)) 24))) (nI_add 1 (cnt (bt ((w.2 8) k)) 24)) ?_
        refine va_mmax (x := nI j) (y := nI (1 + (cnt (bt ((w.2 8) k)) 24))) hx hb (hml.trans hl.1.symm) hown (hts (.methodLink RX3 94 Lib.Math.max.name) (List.mem_of_getElem? (i := 3) rfl)) (hts (.static Lib.Math.max.name) (List.mem_of_getElem? (i := 4) rfl)) (hts (.initialized "java/lang/Math") (List.mem_of_getElem? (i := 5) rfl)) (hts (.code Lib.Math.max.name Lib.Math.max.code 2 (some .int)) (List.mem_of_getElem? (i := 6) rfl)) (Nat.le_of_ble_eq_true rfl) (Nat.le_of_ble_eq_true rfl) (Nat.zero_le _) (Nat.zero_le _) dX3_greatestNesting_24 ?_
        refine topE (mxN (a := j) (b := 1 + cnt (bt (w.2 8 k)) 24) (by omega) (by omega)) ?_
        refine lv_istore_n (lv' := [(1, .int (nI (if j < 1 + cnt (bt (w.2 8 k)) 24 then 1 + cnt (bt (w.2 8 k)) 24 else j))), (0, .ref (h 0)), (2, .int (nI k))]) hx hb dX3_greatestNesting_27 rfl hl (by decide) rfl (fun ls hl => ?_)
        refine lv_iinc (v := nI (k + 1)) (lv' := [(2, .int (nI (k + 1))), (1, .int (nI (if j < 1 + cnt (bt (w.2 8 k)) 24 then 1 + cnt (bt (w.2 8 k)) 24 else j))), (0, .ref (h 0))]) hx hb dX3_greatestNesting_28 hl (k := 2) rfl (nI_1 k) (by decide) rfl (fun ls hl => ?_)
        refine lv_goto (tgt := 4) hx hb dX3_greatestNesting_31 (by decide) ?_
        exact ih4 (k + 1) (if j < 1 + cnt (bt (w.2 8 k)) 24 then 1 + cnt (bt (w.2 8 k)) 24 else j) (by first | assumption | omega) (by rw [nst, ← hj]) (by split <;> omega) (by omega) ls (lv_sub hl [2, 1, 0] rfl)
  exact LP4 (nl - 0 + 1) 0 0 (by first | assumption | omega) (rfl) (by omega) (Nat.lt_succ_self _) ls (lv_sub hl [2, 1, 0] rfl)
set_option maxHeartbeats 1000000 in
set_option maxRecDepth 100000 in
theorem mt_X2_countThereF (l : Launch) (G : gG) (h : Nat → Nat) (z : oS) (jj : Nat → Nat → Int64) : Met l yX2_countThere wsX2_countThere ({ frames := 0, cells := 0, slots := 0, locals := 0 }) (preR G (sv G h z jj) [.ref (h 0)]) (vp_Si (fun r : Int32 => r = nI (cnt (fun i => decide (¬ z.2 1 i = -1)) 4))) 0 0 (fun _ => False) := by
  refine Met.ofW (cc := cX2_countThere) (maxL := 3) (ret := (some .int)) (by decide) rfl ?_
  intro p e s m args below meth c s₁ B hml hv
  obtain ⟨ha, hP, hK, hN⟩ := hv
  subst ha
  have hx := B.exec
  have hb := B.bytes
  have hr := B.returns
  have hts := atoms_spec (ws := wsX2_countThere) B.pre
  have hown : s.vm.findClass RX2 = some m.cls := findClass_of_methodNamed B.named
  have hlocks := B.notSynchronized
  have hiX2 : ∀ w ∈ wsX20, w ∈ wsX2_countThere := fun w h9 => List.mem_cons_of_mem _ (List.mem_append_right _ (h9))
  have k16 := hts (.fieldLink RX2 16 "WovenHistory$Sheets" "sizes" "[I") (List.mem_of_getElem? (i := 1) rfl)
  have hl := lv_entry ([.ref (h 0)]) (n := 3) (Nat.le_of_ble_eq_true rfl)
  rw [lg_entry_eq]
  generalize (lg_sl ([.ref (h 0)]) ++ List.replicate (3 - (lg_sl ([.ref (h 0)])).length) Slot.unset).toArray = ls at hl ⊢
  have hl : lv_has ls 3 [(0, .ref (h 0))] := hl
  refine lv_iconst (v := nI 0) hx hb dX2_countThere_0 (by decide) ?_
  refine lv_istore_n (lv' := [(1, .int (nI 0)), (0, .ref (h 0))]) hx hb dX2_countThere_1 rfl hl (by decide) rfl (fun ls hl => ?_)
  refine lv_iconst (v := nI 0) hx hb dX2_countThere_2 (by decide) ?_
  refine lv_istore_n (lv' := [(2, .int (nI 0)), (1, .int (nI 0)), (0, .ref (h 0))]) hx hb dX2_countThere_3 rfl hl (by decide) rfl (fun ls hl => ?_)
  have LP4 : ∀ (n4m : Nat), ∀ (k : Nat) (j : Nat) (hk : k ≤ 4) (hj : j = cnt (fun i => decide (¬ z.2 1 i = -1)) k) (hj2 : j ≤ k), (4 - k < n4m) → ∀ (ls : Array Slot), lv_has ls 3 [(0, .ref (h 0)), (1, .int (nI j)), (2, .int (nI k))] → W p l e (headSpec wsX2_countThere ({ frames := 0, cells := 0, slots := 0, locals := 0 })).room s m ([.ref (h 0)] : List Value).toArray below meth c s.heap [] 0 0 (MQ below (vp_Si (fun r : Int32 => r = nI (cnt (fun i => decide (¬ z.2 1 i = -1)) 4))) ([.ref (h 0)] : List Value).toArray s 0 0 (fun _ => False)) (F0 m 4 ls []) := by
    intro n4m
    induction n4m with
    | zero => intro k j hk hj hj2 hmu ls hl; exact absurd hmu (Nat.not_lt_zero _)
    | succ n4m ih4 =>
      intro k j hk hj hj2 hmu ls hl
      refine lv_iload_n hx hb dX2_countThere_4 rfl (lv_at hl 2 rfl) ?_
      refine lv_iconst (v := nI 4) hx hb dX2_countThere_5 (by decide) ?_
      refine lv_icmp_ge (tgt := 28) hx hb dX2_countThere_6 (by decide) (fun c6 => ?_) (fun c6 => ?_)
      · skip
        have n6 : 4 ≤ k := (nI_leI (a := 4) (b := k) (by omega) (by omega)).mp c6
        refine lv_iload_n hx hb dX2_countThere_28 rfl (lv_at hl 1 rfl) ?_
        exact W.iret (v := nI j) hx hb hr (fun t ht hW => ⟨nI j, rfl, by rw [hj, show k = 4 by omega], ht⟩) (fun _ h9 => by cases h9) dX2_countThere_29
      · skip
        have n6 : ¬ (4 ≤ k) := fun q9 => c6 ((nI_leI (a := 4) (b := k) (by omega) (by omega)).mpr q9)
        refine lv_aload_n hx hb dX2_countThere_9 rfl (lv_at hl 0 rfl) ?_
        refine va_get (D := gD G) (ci := 2) (v := .ref (h 2)) (C := RX2) (T := TX2) (N := 2) hx hb hts hiX2 hown hK hP 0 rfl rfl 1 (by decide) k16 (fun _ h9 => h9) rfl dX2_countThere_10 ?_
        refine lv_iload_n hx hb dX2_countThere_13 rfl (lv_at hl 2 rfl) ?_
        refine ialdN (f := z.2 1) (n := 4) (k := k) hx hb hK hP 2 rfl rfl (by omega) dX2_countThere_14 ?_
        refine lv_iconst (v := (-1 : Int32)) hx hb dX2_countThere_15 (by decide) ?_
        refine lv_icmp_eq (tgt := 22) hx hb dX2_countThere_16 (by decide) (fun c16 => ?_) (fun c16 => ?_)
        · skip
          refine lv_iinc (v := nI (k + 1)) (lv' := [(2, .int (nI (k + 1))), (0, .ref (h 0)), (1, .int (nI j))]) hx hb dX2_countThere_22 hl (k := 2) rfl (nI_1 k) (by decide) rfl (fun ls hl => ?_)
          refine lv_goto (tgt := 4) hx hb dX2_countThere_25 (by decide) ?_
          exact ih4 (k + 1) j (by first | assumption | omega) (by first | rfl | (rw [cnt_t (decide_eq_true (by assumption))]; omega) | (rw [cnt_f (decide_eq_false (not_not_intro (by assumption)))]; omega)) (by first | assumption | omega) (by omega) ls (lv_sub hl [1, 2, 0] rfl)
        · skip
          refine lv_iinc (v := nI (j + 1)) (lv' := [(1, .int (nI (j + 1))), (0, .ref (h 0)), (2, .int (nI k))]) hx hb dX2_countThere_19 hl (k := 1) rfl (nI_1 j) (by decide) rfl (fun ls hl => ?_)
          refine lv_iinc (v := nI (k + 1)) (lv' := [(2, .int (nI (k + 1))), (1, .int (nI (j + 1))), (0, .ref (h 0))]) hx hb dX2_countThere_22 hl (k := 2) rfl (nI_1 k) (by decide) rfl (fun ls hl => ?_)
          refine lv_goto (tgt := 4) hx hb dX2_countThere_25 (by decide) ?_
          exact ih4 (k + 1) (j + 1) (by first | assumption | omega) (by first | rfl | (rw [cnt_t (decide_eq_true (by assumption))]; omega) | (rw [cnt_f (decide_eq_false (not_not_intro (by assumption)))]; omega)) (by first | assumption | omega) (by omega) ls (lv_sub hl [2, 1, 0] rfl)
  exact LP4 (4 - 0 + 1) 0 0 (by first | assumption | omega) (by first | rfl | (rw [cnt_t (decide_eq_true (by assumption))]; omega) | (rw [cnt_f (decide_eq_false (not_not_intro (by assumption)))]; omega)) (by first | assumption | omega) (Nat.lt_succ_self _) ls (lv_sub hl [2, 1, 0] rfl)
set_option maxHeartbeats 1000000 in
set_option maxRecDepth 100000 in
theorem mt_X5_toldT (l : Launch) (G : gG) (h : Nat → Nat) (sz : Nat) (u : oS) (lt : Int64) (sj : Nat → Int64) (sg : pS) (zz : Nat → Nat → Int64) (what : Int32) (nh : Nat) (hI : MIx u (sg.1 0) (sg.1 4) (sg.1 10) nh) (hIS : IS sg) (hRM : RepM u sj sg zz) : Met l yX5_told wsX5_told ({ frames := 4, cells := 0, slots := 0, locals := 88 }) (preW G (mw G h u lt sj) sz [.ref (h 0), .int what]) (va_Qi (fun (r : Int32) (v : oS × Int64 × (Nat → Int64)) => RepM v.1 v.2.2 sg zz ∧ r = tolA sg what) (fun v t => PP G (mw G h v.1 v.2.1 v.2.2) t.heap) (va_A (mw G h u lt sj) sz)) 0 0 (va_A (mw G h u lt sj) sz) := by
  refine Met.ofW (cc := cX5_told) (maxL := 2) (ret := (some .int)) (by decide) rfl ?_
  intro p e s m args below meth c s₁ B hml hv
  obtain ⟨ha, hsz, hP, hK, hN, hD0⟩ := hv
  subst ha
  have hx := B.exec
  have hb := B.bytes
  have hr := B.returns
  have hts := atoms_spec (ws := wsX5_told) B.pre
  have hown : s.vm.findClass RX5 = some m.cls := findClass_of_methodNamed B.named
  have hlocks := B.notSynchronized
  subst hsz
  have hD := hD0.self (sz := s.heap.size)
  generalize hAe : va_A (mw G h u lt sj) s.heap.size = A at hD ⊢
  have hA : ∀ q : Nat, s.heap.size ≤ q → A q := fun q h => by rw [← hAe]; exact Or.inr h
  clear hAe hD0
  have hS : va_S A s.heap s.heap [] := va_S.rf
  have hiX5 : ∀ w ∈ wsX50, w ∈ wsX5_told := fun w h9 => List.mem_cons_of_mem _ (List.mem_append_right _ (h9))
  have k91 := hts (.fieldLink RX5 91 "WovenHistoryModel" "versions" "I") (List.mem_of_getElem? (i := 1) rfl)
  have k175 := hts (.fieldLink RX5 175 "WovenHistoryModel" "lines" "I") (List.mem_of_getElem? (i := 2) rfl)
  have k178 := hts (.fieldLink RX5 178 "WovenHistoryModel" "isOpen" "Z") (List.mem_of_getElem? (i := 3) rfl)
  have k7 := hts (.fieldLink RX5 7 "WovenHistoryModel" "parent" "[I") (List.mem_of_getElem? (i := 4) rfl)
  have k101 := hts (.fieldLink RX5 101 "WovenHistoryModel" "texted" "I") (List.mem_of_getElem? (i := 5) rfl)
  have hl := lv_entry ([.ref (h 0), .int what]) (n := 2) (Nat.le_of_ble_eq_true rfl)
  rw [lg_entry_eq]
  generalize (lg_sl ([.ref (h 0), .int what]) ++ List.replicate (2 - (lg_sl ([.ref (h 0), .int what])).length) Slot.unset).toArray = ls at hl ⊢
  have hl : lv_has ls 2 [(0, .ref (h 0)), (1, .int what)] := hl
  have hC := hRM.1
  have hic := hIS.ic
  have hle8 := hIS.2.2.1
  have h8e := hRM.2.1
  have hI0 := hI
  obtain ⟨hnv, hnl, hnt, hnh, hnv24, hnl120, hnt240, hnh120, hop, hopn, hparV, hsz4, himg⟩ := hI
  refine lv_iload_n hx hb dX5_told_0 rfl (lv_at hl 1 rfl) ?_
  by_cases q1_0 : what = 0
  · skip
    subst q1_0
    refine lv_tableIn (tgt := 56) hx hb dX5_told_1 (by decide) (by decide) rfl (by decide) ?_
    refine lv_aload_n hx hb dX5_told_56 rfl (lv_at hl 0 rfl) ?_
    refine va_get (D := gD G) (ci := 5) (v := .int (u.1 0)) (C := RX5) (T := TX5) (N := 38) hx hb hts hiX5 hown hK hP 0 rfl rfl 0 (by decide) k91 (fun _ h9 => h9) rfl dX5_told_57 ?_
    refine topE hnv ?_
    exact W.iret (v := nI (sg.1 0)) hx hb hr (fun t ht hW => ⟨⟨nI (sg.1 0), (u, lt, sj), rfl, ⟨hRM, by rw [tolA, if_pos rfl]⟩, show PP G (mw G h u lt sj) t.heap by rw [ht]; exact hP⟩, hS.F ht⟩) hS.2.2 dX5_told_60
  by_cases q1_1 : what = 1
  · skip
    subst q1_1
    refine lv_tableIn (tgt := 61) hx hb dX5_told_1 (by decide) (by decide) rfl (by decide) ?_
    refine lv_aload_n hx hb dX5_told_61 rfl (lv_at hl 0 rfl) ?_
    refine va_get (D := gD G) (ci := 5) (v := .int (u.1 4)) (C := RX5) (T := TX5) (N := 38) hx hb hts hiX5 hown hK hP 0 rfl rfl 4 (by decide) k175 (fun _ h9 => h9) rfl dX5_told_62 ?_
    refine topE hnl ?_
    exact W.iret (v := nI (sg.1 4)) hx hb hr (fun t ht hW => ⟨⟨nI (sg.1 4), (u, lt, sj), rfl, ⟨hRM, by rw [tolA, if_neg (show ¬ (1 : Int32) = (0 : Int32) by decide), if_pos rfl]⟩, show PP G (mw G h u lt sj) t.heap by rw [ht]; exact hP⟩, hS.F ht⟩) hS.2.2 dX5_told_65
  by_cases q1_2 : what = 2
  · skip
    subst q1_2
    refine lv_tableIn (tgt := 66) hx hb dX5_told_1 (by decide) (by decide) rfl (by decide) ?_
    refine lv_aload_n hx hb dX5_told_66 rfl (lv_at hl 0 rfl) ?_
    refine va_get (D := gD G) (ci := 5) (v := .int (u.1 8)) (C := RX5) (T := TX5) (N := 38) hx hb hts hiX5 hown hK hP 0 rfl rfl 8 (by decide) k178 (fun _ h9 => h9) rfl dX5_told_67 ?_
    refine lv_if_eq (tgt := 85) hx hb dX5_told_70 (by decide) (fun c70 => ?_) (fun c70 => ?_)
    · skip
      refine lv_iconst (v := (-1 : Int32)) hx hb dX5_told_85 (by decide) ?_
      exact W.iret (v := (-1 : Int32)) hx hb hr (fun t ht hW => ⟨⟨(-1 : Int32), (u, lt, sj), rfl, ⟨hRM, by rw [tolA, if_neg (show ¬ (2 : Int32) = (0 : Int32) by decide), if_neg (show ¬ (2 : Int32) = (1 : Int32) by decide), if_pos rfl]; exact (by rw [if_pos (nI_z (by omega) (h8e.symm.trans c70))] <;> first | rfl | decide)⟩, show PP G (mw G h u lt sj) t.heap by rw [ht]; exact hP⟩, hS.F ht⟩) hS.2.2 dX5_told_86
    · skip
      have h81 := (show sg.1 8 = 1 by have h8 : ¬ sg.1 8 = 0 := (fun q9 => c70 (h8e.trans (by rw [q9]; rfl))); omega)
      refine lv_aload_n hx hb dX5_told_73 rfl (lv_at hl 0 rfl) ?_
      refine va_get (D := gD G) (ci := 5) (v := .ref (h 1)) (C := RX5) (T := TX5) (N := 38) hx hb hts hiX5 hown hK hP 0 rfl rfl 1 (by decide) k7 (fun _ h9 => h9) rfl dX5_told_74 ?_
      refine lv_aload_n hx hb dX5_told_77 rfl (lv_at hl 0 rfl) ?_
      refine va_get (D := gD G) (ci := 5) (v := .int (u.1 0)) (C := RX5) (T := TX5) (N := 38) hx hb hts hiX5 hown hK hP 0 rfl rfl 0 (by decide) k91 (fun _ h9 => h9) rfl dX5_told_78 ?_
      refine topE hnv ?_
      refine ialdN (f := u.2 1) (n := 25) (k := sg.1 0) hx hb hK hP 1 rfl rfl (by omega) dX5_told_81 ?_
      refine lv_goto (tgt := 86) hx hb dX5_told_82 (by decide) ?_
      exact W.iret (v := (u.2 1) (sg.1 0)) hx hb hr (fun t ht hW => ⟨⟨(u.2 1) (sg.1 0), (u, lt, sj), rfl, ⟨hRM, by rw [tolA, if_neg (show ¬ (2 : Int32) = (0 : Int32) by decide), if_neg (show ¬ (2 : Int32) = (1 : Int32) by decide), if_pos rfl]; exact (by rw [if_neg (fun q9 => c70 (h8e.trans (by rw [q9]; rfl)))]; exact hC.2.2.1 (sg.1 0) (by omega))⟩, show PP G (mw G h u lt sj) t.heap by rw [ht]; exact hP⟩, hS.F ht⟩) hS.2.2 dX5_told_86
  by_cases q1_3 : what = 3
  · skip
    subst q1_3
    refine lv_tableIn (tgt := 87) hx hb dX5_told_1 (by decide) (by decide) rfl (by decide) ?_
    refine lv_aload_n hx hb dX5_told_87 rfl (lv_at hl 0 rfl) ?_
    refine va_get (D := gD G) (ci := 5) (v := .int (u.1 8)) (C := RX5) (T := TX5) (N := 38) hx hb hts hiX5 hown hK hP 0 rfl rfl 8 (by decide) k178 (fun _ h9 => h9) rfl dX5_told_88 ?_
    refine lv_if_eq (tgt := 98) hx hb dX5_told_91 (by decide) (fun c91 => ?_) (fun c91 => ?_)
    · skip
      refine lv_iconst (v := nI 0) hx hb dX5_told_98 (by decide) ?_
      exact W.iret (v := nI 0) hx hb hr (fun t ht hW => ⟨⟨nI 0, (u, lt, sj), rfl, ⟨hRM, by rw [tolA, if_neg (show ¬ (3 : Int32) = (0 : Int32) by decide), if_neg (show ¬ (3 : Int32) = (1 : Int32) by decide), if_neg (show ¬ (3 : Int32) = (2 : Int32) by decide), if_pos rfl]; exact (by rw [if_pos (nI_z (by omega) (h8e.symm.trans c91))] <;> first | rfl | decide)⟩, show PP G (mw G h u lt sj) t.heap by rw [ht]; exact hP⟩, hS.F ht⟩) hS.2.2 dX5_told_99
    · skip
      refine lv_iconst (v := nI 1) hx hb dX5_told_94 (by decide) ?_
      refine lv_goto (tgt := 99) hx hb dX5_told_95 (by decide) ?_
      exact W.iret (v := nI 1) hx hb hr (fun t ht hW => ⟨⟨nI 1, (u, lt, sj), rfl, ⟨hRM, by rw [tolA, if_neg (show ¬ (3 : Int32) = (0 : Int32) by decide), if_neg (show ¬ (3 : Int32) = (1 : Int32) by decide), if_neg (show ¬ (3 : Int32) = (2 : Int32) by decide), if_pos rfl]; exact (by rw [if_neg (fun q9 => c91 (h8e.trans (by rw [q9]; rfl)))] <;> first | rfl | decide)⟩, show PP G (mw G h u lt sj) t.heap by rw [ht]; exact hP⟩, hS.F ht⟩) hS.2.2 dX5_told_99
  by_cases q1_4 : what = 4
  · skip
    subst q1_4
    refine lv_tableIn (tgt := 100) hx hb dX5_told_1 (by decide) (by decide) rfl (by decide) ?_
    refine lv_aload_n hx hb dX5_told_100 rfl (lv_at hl 0 rfl) ?_
    refine va_get (D := gD G) (ci := 5) (v := .int (u.1 8)) (C := RX5) (T := TX5) (N := 38) hx hb hts hiX5 hown hK hP 0 rfl rfl 8 (by decide) k178 (fun _ h9 => h9) rfl dX5_told_101 ?_
    refine lv_if_eq (tgt := 122) hx hb dX5_told_104 (by decide) (fun c104 => ?_) (fun c104 => ?_)
    · skip
      refine lv_iconst (v := nI 0) hx hb dX5_told_122 (by decide) ?_
      exact W.iret (v := nI 0) hx hb hr (fun t ht hW => ⟨⟨nI 0, (u, lt, sj), rfl, ⟨hRM, by rw [tolA, if_neg (show ¬ (4 : Int32) = (0 : Int32) by decide), if_neg (show ¬ (4 : Int32) = (1 : Int32) by decide), if_neg (show ¬ (4 : Int32) = (2 : Int32) by decide), if_neg (show ¬ (4 : Int32) = (3 : Int32) by decide), if_pos rfl]; exact (by rw [if_pos (nI_z (by omega) (h8e.symm.trans c104))] <;> first | rfl | decide)⟩, show PP G (mw G h u lt sj) t.heap by rw [ht]; exact hP⟩, hS.F ht⟩) hS.2.2 dX5_told_123
    · skip
      obtain ⟨ho1, ho2⟩ := hopn (hop.resolve_left c104)
      refine lv_aload_n hx hb dX5_told_107 rfl (lv_at hl 0 rfl) ?_
      refine lv_aload_n hx hb dX5_told_108 rfl (lv_at hl 0 rfl) ?_
      refine lv_aload_n hx hb dX5_told_109 rfl (lv_at hl 0 rfl) ?_
      refine va_get (D := gD G) (ci := 5) (v := .int (u.1 0)) (C := RX5) (T := TX5) (N := 38) hx hb hts hiX5 hown hK hP 0 rfl rfl 0 (by decide) k91 (fun _ h9 => h9) rfl dX5_told_110 ?_
      refine topE hnv ?_
      have hP := mw_self26 hP
      have hD : va_D A (mw G h (oA u 26 (u.2 26)) lt sj) := mw_self26D hD
      refine cXi (As := [.int (nI (sg.1 0))]) (rest := [.ref (h 0)]) (S := oS × Int64 × (Nat → Int64)) (wa := mw G h (oA u 26 (u.2 26)) lt sj) (w1 := fun v => mw G h v.1 v.2.1 v.2.2) ⟨hx, hb, hml, hown, hts⟩ (mt_X5_changesOf l G h _ u lt sj (u.2 26) (sg.1 0) (by first | assumption | omega) (ho2)) (cwV 1 hts gX5_told_X5_changesOf rfl rfl rfl ⟨rfl, hd_X5_changesOf⟩ ⟨Nat.le_of_ble_eq_true rfl, Nat.le_of_ble_eq_true rfl⟩) hK hN hP hD hS hA (fun _ => rfl) 0 5 rfl rfl rfl hl.1 rfl (Nat.le_of_ble_eq_true rfl) ⟨Nat.zero_le _, Nat.zero_le _⟩ dX5_told_113 (fun r113 u113 H locs hw113 hP hD hS => ?_)
      obtain ⟨g113, rfl, rfl⟩ := hw113
      have hP : PP G (mw G h (oA u 26 g113) lt sj) H := hP
      have hD : va_D A (mw G h (oA u 26 g113) lt sj) := hD
      refine cRi (w := mw G h (oA u 26 g113) lt sj) (As := [.int (chV (u.2 1) (u.2 2) (u.2 3) (nI (sg.1 0)))]) (rest := []) ⟨hx, hb, hml, hown, hts⟩ (mt_X5_manyOf l G h (oA u 26 g113) lt sj (sg.1 4) (chV (u.2 1) (u.2 2) (u.2 3) (nI (sg.1 0))) (hnl) (by first | assumption | omega)) (cwV 1 hts gX5_told_X5_manyOf rfl rfl rfl ⟨rfl, hd_X5_manyOf⟩ ⟨Nat.le_of_ble_eq_true rfl, Nat.le_of_ble_eq_true rfl⟩) hK hN hP 0 5 rfl rfl rfl hl.1 rfl (Nat.le_of_ble_eq_true rfl) ⟨Nat.zero_le _, Nat.zero_le _⟩ dX5_told_116 (fun r116 hw116 => ?_)
      obtain rfl := hw116
      have hc116 := cnt_le (sdb ((oA u 26 g113).2 6) ((oA u 26 g113).2 7) (chV (u.2 1) (u.2 2) (u.2 3) (nI (sg.1 0)))) (sg.1 4)
      refine lv_goto (tgt := 123) hx hb dX5_told_119 (by decide) ?_
      exact W.iret (v := nI (cnt (sdb ((oA u 26 g113).2 6) ((oA u 26 g113).2 7) (chV (u.2 1) (u.2 2) (u.2 3) (nI (sg.1 0)))) (sg.1 4))) hx hb hr (fun t ht hW => ⟨⟨nI (cnt (sdb ((oA u 26 g113).2 6) ((oA u 26 g113).2 7) (chV (u.2 1) (u.2 2) (u.2 3) (nI (sg.1 0)))) (sg.1 4)), (oA u 26 g113, lt, sj), rfl, ⟨RepM_26 _ hRM, by rw [tolA, if_neg (show ¬ (4 : Int32) = (0 : Int32) by decide), if_neg (show ¬ (4 : Int32) = (1 : Int32) by decide), if_neg (show ¬ (4 : Int32) = (2 : Int32) by decide), if_neg (show ¬ (4 : Int32) = (3 : Int32) by decide), if_pos rfl]; exact (by rw [if_neg (fun q9 => c104 (h8e.trans (by rw [q9]; rfl)))]; exact congrArg nI (olM hRM hIS (show sg.1 8 = 1 by have h8 : ¬ sg.1 8 = 0 := (fun q9 => c104 (h8e.trans (by rw [q9]; rfl))); omega)))⟩, show PP G (mw G h (oA u 26 g113) lt sj) t.heap by rw [ht]; exact hP⟩, hS.F ht⟩) hS.2.2 dX5_told_123
  by_cases q1_5 : what = 5
  · skip
    subst q1_5
    refine lv_tableIn (tgt := 124) hx hb dX5_told_1 (by decide) (by decide) rfl (by decide) ?_
    refine lv_aload_n hx hb dX5_told_124 rfl (lv_at hl 0 rfl) ?_
    refine cRi (w := mw G h u lt sj) (As := []) (rest := []) ⟨hx, hb, hml, hown, hts⟩ (mt_X5_blocks l G h u lt sj (sg.1 4) (hnl) (by first | assumption | omega)) (cwV 0 hts gX5_told_X5_blocks rfl rfl rfl ⟨rfl, hd_X5_blocks⟩ ⟨Nat.le_of_ble_eq_true rfl, Nat.le_of_ble_eq_true rfl⟩) hK hN hP 0 5 rfl rfl rfl hl.1 rfl (Nat.le_of_ble_eq_true rfl) ⟨Nat.zero_le _, Nat.zero_le _⟩ dX5_told_125 (fun r125 hw125 => ?_)
    obtain rfl := hw125
    have hc125 := cnt_le (nbb (u.2 6) (u.2 7)) (sg.1 4)
    exact W.iret (v := nI (cnt (nbb (u.2 6) (u.2 7)) (sg.1 4))) hx hb hr (fun t ht hW => ⟨⟨nI (cnt (nbb (u.2 6) (u.2 7)) (sg.1 4)), (u, lt, sj), rfl, ⟨hRM, by rw [tolA, if_neg (show ¬ (5 : Int32) = (0 : Int32) by decide), if_neg (show ¬ (5 : Int32) = (1 : Int32) by decide), if_neg (show ¬ (5 : Int32) = (2 : Int32) by decide), if_neg (show ¬ (5 : Int32) = (3 : Int32) by decide), if_neg (show ¬ (5 : Int32) = (4 : Int32) by decide), if_pos rfl]; exact congrArg nI (cnt_c _ (nbb_c hC.2.2.2.2.2.2.1 hC.2.2.2.2.2.2.2))⟩, show PP G (mw G h u lt sj) t.heap by rw [ht]; exact hP⟩, hS.F ht⟩) hS.2.2 dX5_told_128
  by_cases q1_6 : what = 6
  · skip
    subst q1_6
    refine lv_tableIn (tgt := 129) hx hb dX5_told_1 (by decide) (by decide) rfl (by decide) ?_
    refine lv_aload_n hx hb dX5_told_129 rfl (lv_at hl 0 rfl) ?_
    refine cRi (w := mw G h u lt sj) (As := []) (rest := []) ⟨hx, hb, hml, hown, hts⟩ (mt_X5_nestF l G h u lt sj (sg.1 4) (hnl) (by first | assumption | omega)) (cwV 0 hts gX5_told_X5_nest rfl rfl rfl ⟨rfl, hd_X5_nest⟩ ⟨Nat.le_of_ble_eq_true rfl, Nat.le_of_ble_eq_true rfl⟩) hK hN hP 0 5 rfl rfl rfl hl.1 rfl (Nat.le_of_ble_eq_true rfl) ⟨Nat.zero_le _, Nat.zero_le _⟩ dX5_told_130 (fun r130 hw130 => ?_)
    obtain rfl := hw130
    have hc130 := nst_le (u.2 7) (sg.1 4)
    exact W.iret (v := nI (nst (u.2 7) (sg.1 4))) hx hb hr (fun t ht hW => ⟨⟨nI (nst (u.2 7) (sg.1 4)), (u, lt, sj), rfl, ⟨hRM, by rw [tolA, if_neg (show ¬ (6 : Int32) = (0 : Int32) by decide), if_neg (show ¬ (6 : Int32) = (1 : Int32) by decide), if_neg (show ¬ (6 : Int32) = (2 : Int32) by decide), if_neg (show ¬ (6 : Int32) = (3 : Int32) by decide), if_neg (show ¬ (6 : Int32) = (4 : Int32) by decide), if_neg (show ¬ (6 : Int32) = (5 : Int32) by decide), if_pos rfl]; exact congrArg nI (nst_c _ hC.2.2.2.2.2.2.2)⟩, show PP G (mw G h u lt sj) t.heap by rw [ht]; exact hP⟩, hS.F ht⟩) hS.2.2 dX5_told_133
  by_cases q1_7 : what = 7
  · skip
    subst q1_7
    refine lv_tableIn (tgt := 134) hx hb dX5_told_1 (by decide) (by decide) rfl (by decide) ?_
    refine lv_aload_n hx hb dX5_told_134 rfl (lv_at hl 0 rfl) ?_
    have hP := mw_self26 hP
    have hD : va_D A (mw G h (oA u 26 (u.2 26)) lt sj) := mw_self26D hD
    refine cXi (As := []) (rest := []) (S := oS × Int64 × (Nat → Int64)) (wa := mw G h (oA u 26 (u.2 26)) lt sj) (w1 := fun v => mw G h v.1 v.2.1 v.2.2) ⟨hx, hb, hml, hown, hts⟩ (mt_X5_goneF l G h _ u lt sj (u.2 26) (sg.1 0) (sg.1 4) (hnv) (hnl) (by first | assumption | omega) (by first | assumption | omega) (by first | assumption | omega)) (cwV 0 hts gX5_told_X5_gone rfl rfl rfl ⟨rfl, hd_X5_gone⟩ ⟨Nat.le_of_ble_eq_true rfl, Nat.le_of_ble_eq_true rfl⟩) hK hN hP hD hS hA (fun _ => rfl) 0 5 rfl rfl rfl hl.1 rfl (Nat.le_of_ble_eq_true rfl) ⟨Nat.zero_le _, Nat.zero_le _⟩ dX5_told_135 (fun r135 u135 H locs hw135 hP hD hS => ?_)
    obtain ⟨g135, rfl, rfl⟩ := hw135
    have hP : PP G (mw G h (oA u 26 g135) lt sj) H := hP
    have hD : va_D A (mw G h (oA u 26 g135) lt sj) := hD
    exact W.iret (v := nI (cnt (fun i => decide (lifF (fun v => sdb (u.2 6) (u.2 7) (chV (u.2 1) (u.2 2) (u.2 3) (nI v)) i) (sg.1 0) = 0)) (sg.1 4))) hx hb hr (fun t ht hW => ⟨⟨nI (cnt (fun i => decide (lifF (fun v => sdb (u.2 6) (u.2 7) (chV (u.2 1) (u.2 2) (u.2 3) (nI v)) i) (sg.1 0) = 0)) (sg.1 4)), (oA u 26 g135, lt, sj), rfl, ⟨RepM_26 _ hRM, by rw [tolA, if_neg (show ¬ (7 : Int32) = (0 : Int32) by decide), if_neg (show ¬ (7 : Int32) = (1 : Int32) by decide), if_neg (show ¬ (7 : Int32) = (2 : Int32) by decide), if_neg (show ¬ (7 : Int32) = (3 : Int32) by decide), if_neg (show ¬ (7 : Int32) = (4 : Int32) by decide), if_neg (show ¬ (7 : Int32) = (5 : Int32) by decide), if_neg (show ¬ (7 : Int32) = (6 : Int32) by decide), if_pos rfl]; exact congrArg nI (cnt_c _ (fun i hi => congrArg (fun q : Int32 => decide (q = 0)) (lifF_c _ (fun v hv => by rw [hC.cv hic (by omega)]; exact hC.sd _ i hi))))⟩, show PP G (mw G h (oA u 26 g135) lt sj) t.heap by rw [ht]; exact hP⟩, hS.F ht⟩) hS.2.2 dX5_told_138
  by_cases q1_8 : what = 8
  · skip
    subst q1_8
    refine lv_tableIn (tgt := 139) hx hb dX5_told_1 (by decide) (by decide) rfl (by decide) ?_
    refine lv_aload_n hx hb dX5_told_139 rfl (lv_at hl 0 rfl) ?_
    refine va_get (D := gD G) (ci := 5) (v := .int (u.1 10)) (C := RX5) (T := TX5) (N := 38) hx hb hts hiX5 hown hK hP 0 rfl rfl 10 (by decide) k101 (fun _ h9 => h9) rfl dX5_told_140 ?_
    refine topE hnt ?_
    exact W.iret (v := nI (sg.1 10)) hx hb hr (fun t ht hW => ⟨⟨nI (sg.1 10), (u, lt, sj), rfl, ⟨hRM, by rw [tolA, if_neg (show ¬ (8 : Int32) = (0 : Int32) by decide), if_neg (show ¬ (8 : Int32) = (1 : Int32) by decide), if_neg (show ¬ (8 : Int32) = (2 : Int32) by decide), if_neg (show ¬ (8 : Int32) = (3 : Int32) by decide), if_neg (show ¬ (8 : Int32) = (4 : Int32) by decide), if_neg (show ¬ (8 : Int32) = (5 : Int32) by decide), if_neg (show ¬ (8 : Int32) = (6 : Int32) by decide), if_neg (show ¬ (8 : Int32) = (7 : Int32) by decide), if_pos rfl]⟩, show PP G (mw G h u lt sj) t.heap by rw [ht]; exact hP⟩, hS.F ht⟩) hS.2.2 dX5_told_143
  by_cases q1_9 : what = 9
  · skip
    subst q1_9
    refine lv_tableIn (tgt := 144) hx hb dX5_told_1 (by decide) (by decide) rfl (by decide) ?_
    refine lv_aload_n hx hb dX5_told_144 rfl (lv_at hl 0 rfl) ?_
    refine cRi (w := mw G h u lt sj) (As := []) (rest := []) ⟨hx, hb, hml, hown, hts⟩ (mt_X5_sheetsThere l G h u lt sj) (cwV 0 hts gX5_told_X5_sheetsThere rfl rfl rfl ⟨rfl, hd_X5_sheetsThere⟩ ⟨Nat.le_of_ble_eq_true rfl, Nat.le_of_ble_eq_true rfl⟩) hK hN hP 0 5 rfl rfl rfl hl.1 rfl (Nat.le_of_ble_eq_true rfl) ⟨Nat.zero_le _, Nat.zero_le _⟩ dX5_told_145 (fun r145 hw145 => ?_)
    obtain rfl := hw145
    exact W.iret (v := nI (cnt (fun i => decide (¬ u.2 32 i = 0)) 4)) hx hb hr (fun t ht hW => ⟨⟨nI (cnt (fun i => decide (¬ u.2 32 i = 0)) 4), (u, lt, sj), rfl, ⟨hRM, by rw [tolA, if_neg (show ¬ (9 : Int32) = (0 : Int32) by decide), if_neg (show ¬ (9 : Int32) = (1 : Int32) by decide), if_neg (show ¬ (9 : Int32) = (2 : Int32) by decide), if_neg (show ¬ (9 : Int32) = (3 : Int32) by decide), if_neg (show ¬ (9 : Int32) = (4 : Int32) by decide), if_neg (show ¬ (9 : Int32) = (5 : Int32) by decide), if_neg (show ¬ (9 : Int32) = (6 : Int32) by decide), if_neg (show ¬ (9 : Int32) = (7 : Int32) by decide), if_neg (show ¬ (9 : Int32) = (8 : Int32) by decide), if_pos rfl]; exact congrArg nI (cnt_c 4 (ShM_th hRM.2.2.2.2.2.2.2.2.2))⟩, show PP G (mw G h u lt sj) t.heap by rw [ht]; exact hP⟩, hS.F ht⟩) hS.2.2 dX5_told_148
  have t1_0 : ¬ what.toInt = 0 := lv_neT q1_0 rfl
  have t1_1 : ¬ what.toInt = 1 := lv_neT q1_1 rfl
  have t1_2 : ¬ what.toInt = 2 := lv_neT q1_2 rfl
  have t1_3 : ¬ what.toInt = 3 := lv_neT q1_3 rfl
  have t1_4 : ¬ what.toInt = 4 := lv_neT q1_4 rfl
  have t1_5 : ¬ what.toInt = 5 := lv_neT q1_5 rfl
  have t1_6 : ¬ what.toInt = 6 := lv_neT q1_6 rfl
  have t1_7 : ¬ what.toInt = 7 := lv_neT q1_7 rfl
  have t1_8 : ¬ what.toInt = 8 := lv_neT q1_8 rfl
  have t1_9 : ¬ what.toInt = 9 := lv_neT q1_9 rfl
  refine lv_tableOut (tgt := 149) hx hb dX5_told_1 (by omega) (by decide) ?_
  refine lv_ldc (v := (-1000000002 : Int32)) hx hb hown (hts (.constant RX5 100 (-1000000002)) (List.mem_of_getElem? (i := 6) rfl)) dX5_told_149 ?_
  exact W.iret (v := (-1000000002 : Int32)) hx hb hr (fun t ht hW => ⟨⟨(-1000000002 : Int32), (u, lt, sj), rfl, ⟨hRM, by rw [tolA, if_neg q1_0, if_neg q1_1, if_neg q1_2, if_neg q1_3, if_neg q1_4, if_neg q1_5, if_neg q1_6, if_neg q1_7, if_neg q1_8, if_neg q1_9]⟩, show PP G (mw G h u lt sj) t.heap by rw [ht]; exact hP⟩, hS.F ht⟩) hS.2.2 dX5_told_151
set_option maxHeartbeats 1000000 in
set_option maxRecDepth 100000 in
theorem mt_X4_toldT (l : Launch) (G : gG) (h : Nat → Nat) (x : oS) (wn : oS) (wa : oS) (w0 : oS) (w1 : oS) (rd : oS) (wr : oS) (z : oS) (jj : Nat → Nat → Int64) (lt : Int64) (sg : pS) (zz : Nat → Nat → Int64) (what : Int32) (hIS : IS sg) (hRX : RepX x wn wa w0 w1 rd z jj sg zz) (hTK : ∀ i, i < sg.1 4 → T24 (sg.2 7 i)) : Met l yX4_told wsX4_told ({ frames := 4, cells := 0, slots := 0, locals := 87 }) (preR G (xw G h x wn wa w0 w1 rd wr z jj lt) [.ref (h 0), .int what]) (vp_Si (fun r : Int32 => r = tolA sg what)) 0 0 (fun _ => False) := by
  refine Met.ofW (cc := cX4_told) (maxL := 2) (ret := (some .int)) (by decide) rfl ?_
  intro p e s m args below meth c s₁ B hml hv
  obtain ⟨ha, hP, hK, hN⟩ := hv
  subst ha
  have hx := B.exec
  have hb := B.bytes
  have hr := B.returns
  have hts := atoms_spec (ws := wsX4_told) B.pre
  have hown : s.vm.findClass RX4 = some m.cls := findClass_of_methodNamed B.named
  have hlocks := B.notSynchronized
  have hiX4 : ∀ w ∈ wsX40, w ∈ wsX4_told := fun w h9 => List.mem_cons_of_mem _ (List.mem_append_left _ (List.mem_append_left _ (List.mem_append_left _ (List.mem_append_right _ (h9)))))
  have k10 := hts (.fieldLink RX4 10 "WovenHistory" "now" "LWovenHistory$Weave;") (List.mem_of_getElem? (i := 1) rfl)
  have hiX3 : ∀ w ∈ wsX30, w ∈ wsX4_told := fun w h9 => List.mem_cons_of_mem _ (List.mem_append_left _ (List.mem_append_left _ (List.mem_append_right _ (h9))))
  have k82 : (Cond.fieldLinkNest "WovenHistory" 82 "WovenHistory$Weave" "versions" "I" "WovenHistory").before _ s = true := va_Nw.use (A := ([.ref (h 0), .int what] : List Value).toArray) rfl (hN.1 ("WovenHistory", 82, "WovenHistory$Weave", "versions", "I") (List.mem_of_getElem? (i := 12) rfl))
  have k85 : (Cond.fieldLinkNest "WovenHistory" 85 "WovenHistory$Weave" "lines" "I" "WovenHistory").before _ s = true := va_Nw.use (A := ([.ref (h 0), .int what] : List Value).toArray) rfl (hN.1 ("WovenHistory", 85, "WovenHistory$Weave", "lines", "I") (List.mem_of_getElem? (i := 13) rfl))
  have k48 := hts (.fieldLink RX4 48 "WovenHistory" "opened" "Z") (List.mem_of_getElem? (i := 2) rfl)
  have k30 := hts (.fieldLink RX4 30 "WovenHistory" "reader" "LWovenHistory$Reader;") (List.mem_of_getElem? (i := 3) rfl)
  have hiX1 : ∀ w ∈ wsX10, w ∈ wsX4_told := fun w h9 => List.mem_cons_of_mem _ (List.mem_append_left _ (List.mem_append_right _ (h9)))
  have k61 : (Cond.fieldLinkNest "WovenHistory" 61 "WovenHistory$Reader" "length" "I" "WovenHistory").before _ s = true := va_Nw.use (A := ([.ref (h 0), .int what] : List Value).toArray) rfl (hN.1 ("WovenHistory", 61, "WovenHistory$Reader", "length", "I") (List.mem_of_getElem? (i := 9) rfl))
  have k37 := hts (.fieldLink RX4 37 "WovenHistory" "sheets" "LWovenHistory$Sheets;") (List.mem_of_getElem? (i := 4) rfl)
  have hl := lv_entry ([.ref (h 0), .int what]) (n := 2) (Nat.le_of_ble_eq_true rfl)
  rw [lg_entry_eq]
  generalize (lg_sl ([.ref (h 0), .int what]) ++ List.replicate (2 - (lg_sl ([.ref (h 0), .int what])).length) Slot.unset).toArray = ls at hl ⊢
  have hl : lv_has ls 2 [(0, .ref (h 0)), (1, .int what)] := hl
  have hC := hRX.1
  have hic := hIS.ic
  have hv24 := hIS.1
  have hl120 := hIS.2.1
  have ho1 := hIS.2.2.1
  refine lv_iload_n hx hb dX4_told_0 rfl (lv_at hl 1 rfl) ?_
  by_cases q1_0 : what = 0
  · skip
    subst q1_0
    refine lv_tableIn (tgt := 56) hx hb dX4_told_1 (by decide) (by decide) rfl (by decide) ?_
    refine lv_aload_n hx hb dX4_told_56 rfl (lv_at hl 0 rfl) ?_
    refine va_get (D := gD G) (ci := 4) (v := .ref (h 10)) (C := RX4) (T := TX4) (N := 9) hx hb hts hiX4 hown hK hP 0 (xp_0 _ _ _ _ _ _ _ _ _ _ _ _) rfl 0 (by decide) k10 (fun _ h9 => h9) rfl dX4_told_57 ?_
    refine va_getN (D := gD G) (ci := 3) (v := .int (wn.1 0)) (C := RX3) (T := TX3) (N := 9) hx hb hts hiX3 hown hK hP 3 (xp_3 _ _ _ _ _ _ _ _ _ _ _ _) rfl 0 (by decide) k82 (fun _ h9 => h9) rfl dX4_told_60 ?_
    refine topE hC.1 ?_
    exact W.iret (v := nI (sg.1 0)) hx hb hr (fun t ht hW => ⟨nI (sg.1 0), rfl, by rw [tolA, if_pos rfl], ht⟩) (fun _ h9 => by cases h9) dX4_told_63
  by_cases q1_1 : what = 1
  · skip
    subst q1_1
    refine lv_tableIn (tgt := 64) hx hb dX4_told_1 (by decide) (by decide) rfl (by decide) ?_
    refine lv_aload_n hx hb dX4_told_64 rfl (lv_at hl 0 rfl) ?_
    refine va_get (D := gD G) (ci := 4) (v := .ref (h 10)) (C := RX4) (T := TX4) (N := 9) hx hb hts hiX4 hown hK hP 0 (xp_0 _ _ _ _ _ _ _ _ _ _ _ _) rfl 0 (by decide) k10 (fun _ h9 => h9) rfl dX4_told_65 ?_
    refine va_getN (D := gD G) (ci := 3) (v := .int (wn.1 5)) (C := RX3) (T := TX3) (N := 9) hx hb hts hiX3 hown hK hP 3 (xp_3 _ _ _ _ _ _ _ _ _ _ _ _) rfl 5 (by decide) k85 (fun _ h9 => h9) rfl dX4_told_68 ?_
    refine topE hC.2.1 ?_
    exact W.iret (v := nI (sg.1 4)) hx hb hr (fun t ht hW => ⟨nI (sg.1 4), rfl, by rw [tolA, if_neg (show ¬ (1 : Int32) = (0 : Int32) by decide), if_pos rfl], ht⟩) (fun _ h9 => by cases h9) dX4_told_71
  by_cases q1_2 : what = 2
  · skip
    subst q1_2
    refine lv_tableIn (tgt := 72) hx hb dX4_told_1 (by decide) (by decide) rfl (by decide) ?_
    refine lv_aload_n hx hb dX4_told_72 rfl (lv_at hl 0 rfl) ?_
    refine va_get (D := gD G) (ci := 4) (v := .int (x.1 7)) (C := RX4) (T := TX4) (N := 9) hx hb hts hiX4 hown hK hP 0 (xp_0 _ _ _ _ _ _ _ _ _ _ _ _) rfl 7 (by decide) k48 (fun _ h9 => h9) rfl dX4_told_73 ?_
    refine topE hRX.2.1 ?_
    refine lv_if_eq (tgt := 96) hx hb dX4_told_76 (by decide) (fun c76 => ?_) (fun c76 => ?_)
    · skip
      have n76 : (sg.1 8) = 0 := (nI_eq (a := sg.1 8) (b := 0) (by omega) (by omega)).mp c76
      refine lv_iconst (v := (-1 : Int32)) hx hb dX4_told_96 (by decide) ?_
      exact W.iret (v := (-1 : Int32)) hx hb hr (fun t ht hW => ⟨(-1 : Int32), rfl, by rw [tolA, if_neg (show ¬ (2 : Int32) = (0 : Int32) by decide), if_neg (show ¬ (2 : Int32) = (1 : Int32) by decide), if_pos rfl]; exact (by rw [if_pos n76] <;> first | rfl | decide), ht⟩) (fun _ h9 => by cases h9) dX4_told_97
    · skip
      have n76 : ¬ ((sg.1 8) = 0) := fun q9 => c76 ((nI_eq (a := sg.1 8) (b := 0) (by omega) (by omega)).mpr q9)
      have h81 : sg.1 8 = 1 := by omega
      have hC1 : CW wn sg (sg.1 0 + 1) := by rw [h81] at hC; exact hC
      have hv23 : sg.1 0 < 24 := hIS.2.2.2.1 h81
      refine lv_aload_n hx hb dX4_told_79 rfl (lv_at hl 0 rfl) ?_
      refine va_get (D := gD G) (ci := 4) (v := .ref (h 10)) (C := RX4) (T := TX4) (N := 9) hx hb hts hiX4 hown hK hP 0 (xp_0 _ _ _ _ _ _ _ _ _ _ _ _) rfl 0 (by decide) k10 (fun _ h9 => h9) rfl dX4_told_80 ?_
      refine lv_aload_n hx hb dX4_told_83 rfl (lv_at hl 0 rfl) ?_
      refine va_get (D := gD G) (ci := 4) (v := .ref (h 10)) (C := RX4) (T := TX4) (N := 9) hx hb hts hiX4 hown hK hP 0 (xp_0 _ _ _ _ _ _ _ _ _ _ _ _) rfl 0 (by decide) k10 (fun _ h9 => h9) rfl dX4_told_84 ?_
      refine va_getN (D := gD G) (ci := 3) (v := .int (wn.1 0)) (C := RX3) (T := TX3) (N := 9) hx hb hts hiX3 hown hK hP 3 (xp_3 _ _ _ _ _ _ _ _ _ _ _ _) rfl 0 (by decide) k82 (fun _ h9 => h9) rfl dX4_told_87 ?_
      refine topE hC.1 ?_
      refine cRi (w := wv G (fun k => h (10 + k)) wn) (As := [.int (nI (sg.1 0))]) (rest := []) ⟨hx, hb, hml, hown, hts⟩ (mt_X3_parentOfF l G (fun k => h (10 + k)) wn (sg.1 0) (by first | assumption | omega)) (cwV 1 hts gX4_told_X3_parentOf rfl rfl rfl ⟨rfl, hd_X3_parentOf⟩ ⟨Nat.le_of_ble_eq_true rfl, Nat.le_of_ble_eq_true rfl⟩) hK hN (hP.sub [3, 4, 5, 6, 7, 8, 9, 10] (xf_now _ _ _ _ _ _ _ _ _ _ _ _)) 0 3 rfl rfl rfl hl.1 rfl (Nat.le_of_ble_eq_true rfl) ⟨Nat.zero_le _, Nat.zero_le _⟩ dX4_told_90 (fun r90 hw90 => ?_)
      obtain rfl := hw90
      refine lv_goto (tgt := 97) hx hb dX4_told_93 (by decide) ?_
      exact W.iret (v := wn.2 1 (sg.1 0)) hx hb hr (fun t ht hW => ⟨wn.2 1 (sg.1 0), rfl, by rw [tolA, if_neg (show ¬ (2 : Int32) = (0 : Int32) by decide), if_neg (show ¬ (2 : Int32) = (1 : Int32) by decide), if_pos rfl]; exact (by rw [if_neg n76]; exact hC.2.2.1 (sg.1 0) (by omega)), ht⟩) (fun _ h9 => by cases h9) dX4_told_97
  by_cases q1_3 : what = 3
  · skip
    subst q1_3
    refine lv_tableIn (tgt := 98) hx hb dX4_told_1 (by decide) (by decide) rfl (by decide) ?_
    refine lv_aload_n hx hb dX4_told_98 rfl (lv_at hl 0 rfl) ?_
    refine va_get (D := gD G) (ci := 4) (v := .int (x.1 7)) (C := RX4) (T := TX4) (N := 9) hx hb hts hiX4 hown hK hP 0 (xp_0 _ _ _ _ _ _ _ _ _ _ _ _) rfl 7 (by decide) k48 (fun _ h9 => h9) rfl dX4_told_99 ?_
    refine topE hRX.2.1 ?_
    refine lv_if_eq (tgt := 109) hx hb dX4_told_102 (by decide) (fun c102 => ?_) (fun c102 => ?_)
    · skip
      have n102 : (sg.1 8) = 0 := (nI_eq (a := sg.1 8) (b := 0) (by omega) (by omega)).mp c102
      refine lv_iconst (v := nI 0) hx hb dX4_told_109 (by decide) ?_
      exact W.iret (v := nI 0) hx hb hr (fun t ht hW => ⟨nI 0, rfl, by rw [tolA, if_neg (show ¬ (3 : Int32) = (0 : Int32) by decide), if_neg (show ¬ (3 : Int32) = (1 : Int32) by decide), if_neg (show ¬ (3 : Int32) = (2 : Int32) by decide), if_pos rfl]; exact (by rw [if_pos n102] <;> first | rfl | decide), ht⟩) (fun _ h9 => by cases h9) dX4_told_110
    · skip
      have n102 : ¬ ((sg.1 8) = 0) := fun q9 => c102 ((nI_eq (a := sg.1 8) (b := 0) (by omega) (by omega)).mpr q9)
      refine lv_iconst (v := nI 1) hx hb dX4_told_105 (by decide) ?_
      refine lv_goto (tgt := 110) hx hb dX4_told_106 (by decide) ?_
      exact W.iret (v := nI 1) hx hb hr (fun t ht hW => ⟨nI 1, rfl, by rw [tolA, if_neg (show ¬ (3 : Int32) = (0 : Int32) by decide), if_neg (show ¬ (3 : Int32) = (1 : Int32) by decide), if_neg (show ¬ (3 : Int32) = (2 : Int32) by decide), if_pos rfl]; exact (by rw [if_neg n102] <;> first | rfl | decide), ht⟩) (fun _ h9 => by cases h9) dX4_told_110
  by_cases q1_4 : what = 4
  · skip
    subst q1_4
    refine lv_tableIn (tgt := 111) hx hb dX4_told_1 (by decide) (by decide) rfl (by decide) ?_
    refine lv_aload_n hx hb dX4_told_111 rfl (lv_at hl 0 rfl) ?_
    refine va_get (D := gD G) (ci := 4) (v := .int (x.1 7)) (C := RX4) (T := TX4) (N := 9) hx hb hts hiX4 hown hK hP 0 (xp_0 _ _ _ _ _ _ _ _ _ _ _ _) rfl 7 (by decide) k48 (fun _ h9 => h9) rfl dX4_told_112 ?_
    refine topE hRX.2.1 ?_
    refine lv_if_eq (tgt := 125) hx hb dX4_told_115 (by decide) (fun c115 => ?_) (fun c115 => ?_)
    · skip
      have n115 : (sg.1 8) = 0 := (nI_eq (a := sg.1 8) (b := 0) (by omega) (by omega)).mp c115
      refine lv_iconst (v := nI 0) hx hb dX4_told_125 (by decide) ?_
      exact W.iret (v := nI 0) hx hb hr (fun t ht hW => ⟨nI 0, rfl, by rw [tolA, if_neg (show ¬ (4 : Int32) = (0 : Int32) by decide), if_neg (show ¬ (4 : Int32) = (1 : Int32) by decide), if_neg (show ¬ (4 : Int32) = (2 : Int32) by decide), if_neg (show ¬ (4 : Int32) = (3 : Int32) by decide), if_pos rfl]; exact (by rw [if_pos n115] <;> first | rfl | decide), ht⟩) (fun _ h9 => by cases h9) dX4_told_126
    · skip
      have n115 : ¬ ((sg.1 8) = 0) := fun q9 => c115 ((nI_eq (a := sg.1 8) (b := 0) (by omega) (by omega)).mpr q9)
      have h81 : sg.1 8 = 1 := by omega
      have hC1 : CW wn sg (sg.1 0 + 1) := by rw [h81] at hC; exact hC
      have hv23 : sg.1 0 < 24 := hIS.2.2.2.1 h81
      refine lv_aload_n hx hb dX4_told_118 rfl (lv_at hl 0 rfl) ?_
      refine cRi (w := xw G h x wn wa w0 w1 rd wr z jj lt) (As := []) (rest := []) ⟨hx, hb, hml, hown, hts⟩ (mt_X4_openLinesF l G h x wn wa w0 w1 rd wr z jj lt sg (hC1) (hv23) (hl120)) (cwV 0 hts gX4_told_X4_openLines rfl rfl rfl ⟨rfl, hd_X4_openLines⟩ ⟨Nat.le_of_ble_eq_true rfl, Nat.le_of_ble_eq_true rfl⟩) hK hN hP 0 4 rfl rfl rfl hl.1 rfl (Nat.le_of_ble_eq_true rfl) ⟨Nat.zero_le _, Nat.zero_le _⟩ dX4_told_119 (fun r119 hw119 => ?_)
      obtain rfl := hw119
      have hc119 : olS sg ≤ sg.1 4 := cnt_le _ _
      refine lv_goto (tgt := 126) hx hb dX4_told_122 (by decide) ?_
      exact W.iret (v := nI (olS sg)) hx hb hr (fun t ht hW => ⟨nI (olS sg), rfl, by rw [tolA, if_neg (show ¬ (4 : Int32) = (0 : Int32) by decide), if_neg (show ¬ (4 : Int32) = (1 : Int32) by decide), if_neg (show ¬ (4 : Int32) = (2 : Int32) by decide), if_neg (show ¬ (4 : Int32) = (3 : Int32) by decide), if_pos rfl]; exact (by rw [if_neg n115] <;> first | rfl | decide), ht⟩) (fun _ h9 => by cases h9) dX4_told_126
  by_cases q1_5 : what = 5
  · skip
    subst q1_5
    refine lv_tableIn (tgt := 127) hx hb dX4_told_1 (by decide) (by decide) rfl (by decide) ?_
    refine lv_aload_n hx hb dX4_told_127 rfl (lv_at hl 0 rfl) ?_
    refine va_get (D := gD G) (ci := 4) (v := .ref (h 10)) (C := RX4) (T := TX4) (N := 9) hx hb hts hiX4 hown hK hP 0 (xp_0 _ _ _ _ _ _ _ _ _ _ _ _) rfl 0 (by decide) k10 (fun _ h9 => h9) rfl dX4_told_128 ?_
    refine cRi (w := wv G (fun k => h (10 + k)) wn) (As := []) (rest := []) ⟨hx, hb, hml, hown, hts⟩ (mt_X3_countBlocksF l G (fun k => h (10 + k)) wn (sg.1 4) (hC.2.1) (by first | assumption | omega)) (cwV 0 hts gX4_told_X3_countBlocks rfl rfl rfl ⟨rfl, hd_X3_countBlocks⟩ ⟨Nat.le_of_ble_eq_true rfl, Nat.le_of_ble_eq_true rfl⟩) hK hN (hP.sub [3, 4, 5, 6, 7, 8, 9, 10] (xf_now _ _ _ _ _ _ _ _ _ _ _ _)) 0 3 rfl rfl rfl hl.1 rfl (Nat.le_of_ble_eq_true rfl) ⟨Nat.zero_le _, Nat.zero_le _⟩ dX4_told_131 (fun r131 hw131 => ?_)
    obtain rfl := hw131
    have hc131 := cnt_le (nbb (wn.2 7) (wn.2 8)) (sg.1 4)
    exact W.iret (v := nI (cnt (nbb (wn.2 7) (wn.2 8)) (sg.1 4))) hx hb hr (fun t ht hW => ⟨nI (cnt (nbb (wn.2 7) (wn.2 8)) (sg.1 4)), rfl, by rw [tolA, if_neg (show ¬ (5 : Int32) = (0 : Int32) by decide), if_neg (show ¬ (5 : Int32) = (1 : Int32) by decide), if_neg (show ¬ (5 : Int32) = (2 : Int32) by decide), if_neg (show ¬ (5 : Int32) = (3 : Int32) by decide), if_neg (show ¬ (5 : Int32) = (4 : Int32) by decide), if_pos rfl]; exact congrArg nI (cnt_c _ (nbb_c hC.2.2.2.2.2.2.2.1 hC.2.2.2.2.2.2.2.2)), ht⟩) (fun _ h9 => by cases h9) dX4_told_134
  by_cases q1_6 : what = 6
  · skip
    subst q1_6
    refine lv_tableIn (tgt := 135) hx hb dX4_told_1 (by decide) (by decide) rfl (by decide) ?_
    refine lv_aload_n hx hb dX4_told_135 rfl (lv_at hl 0 rfl) ?_
    refine va_get (D := gD G) (ci := 4) (v := .ref (h 10)) (C := RX4) (T := TX4) (N := 9) hx hb hts hiX4 hown hK hP 0 (xp_0 _ _ _ _ _ _ _ _ _ _ _ _) rfl 0 (by decide) k10 (fun _ h9 => h9) rfl dX4_told_136 ?_
    refine cRi (w := wv G (fun k => h (10 + k)) wn) (As := []) (rest := []) ⟨hx, hb, hml, hown, hts⟩ (mt_X3_greatestNestingF l G (fun k => h (10 + k)) wn (sg.1 4) (hC.2.1) (by first | assumption | omega) (fun k hk => by rw [hC.2.2.2.2.2.2.2.2 k hk]; exact hTK k hk)) (cwV 0 hts gX4_told_X3_greatestNesting rfl rfl rfl ⟨rfl, hd_X3_greatestNesting⟩ ⟨Nat.le_of_ble_eq_true rfl, Nat.le_of_ble_eq_true rfl⟩) hK hN (hP.sub [3, 4, 5, 6, 7, 8, 9, 10] (xf_now _ _ _ _ _ _ _ _ _ _ _ _)) 0 3 rfl rfl rfl hl.1 rfl (Nat.le_of_ble_eq_true rfl) ⟨Nat.zero_le _, Nat.zero_le _⟩ dX4_told_139 (fun r139 hw139 => ?_)
    obtain rfl := hw139
    have hc139 := nst_le (wn.2 8) (sg.1 4)
    exact W.iret (v := nI (nst (wn.2 8) (sg.1 4))) hx hb hr (fun t ht hW => ⟨nI (nst (wn.2 8) (sg.1 4)), rfl, by rw [tolA, if_neg (show ¬ (6 : Int32) = (0 : Int32) by decide), if_neg (show ¬ (6 : Int32) = (1 : Int32) by decide), if_neg (show ¬ (6 : Int32) = (2 : Int32) by decide), if_neg (show ¬ (6 : Int32) = (3 : Int32) by decide), if_neg (show ¬ (6 : Int32) = (4 : Int32) by decide), if_neg (show ¬ (6 : Int32) = (5 : Int32) by decide), if_pos rfl]; exact congrArg nI (nst_c _ hC.2.2.2.2.2.2.2.2), ht⟩) (fun _ h9 => by cases h9) dX4_told_142
  by_cases q1_7 : what = 7
  · skip
    subst q1_7
    refine lv_tableIn (tgt := 143) hx hb dX4_told_1 (by decide) (by decide) rfl (by decide) ?_
    refine lv_aload_n hx hb dX4_told_143 rfl (lv_at hl 0 rfl) ?_
    refine va_get (D := gD G) (ci := 4) (v := .ref (h 10)) (C := RX4) (T := TX4) (N := 9) hx hb hts hiX4 hown hK hP 0 (xp_0 _ _ _ _ _ _ _ _ _ _ _ _) rfl 0 (by decide) k10 (fun _ h9 => h9) rfl dX4_told_144 ?_
    refine cRi (w := wv G (fun k => h (10 + k)) wn) (As := []) (rest := []) ⟨hx, hb, hml, hown, hts⟩ (mt_X3_countGoneF l G (fun k => h (10 + k)) wn (sg.1 0) (sg.1 4) (hC.1) (hC.2.1) (by first | assumption | omega) (by first | assumption | omega)) (cwV 0 hts gX4_told_X3_countGone rfl rfl rfl ⟨rfl, hd_X3_countGone⟩ ⟨Nat.le_of_ble_eq_true rfl, Nat.le_of_ble_eq_true rfl⟩) hK hN (hP.sub [3, 4, 5, 6, 7, 8, 9, 10] (xf_now _ _ _ _ _ _ _ _ _ _ _ _)) 0 3 rfl rfl rfl hl.1 rfl (Nat.le_of_ble_eq_true rfl) ⟨Nat.zero_le _, Nat.zero_le _⟩ dX4_told_147 (fun r147 hw147 => ?_)
    obtain rfl := hw147
    have hc147 := cnt_le (fun i => decide (lifF (fun v => sdb (wn.2 7) (wn.2 8) (wn.2 4 v) i) (sg.1 0) = 0)) (sg.1 4)
    exact W.iret (v := nI (cnt (fun i => decide (lifF (fun v => sdb (wn.2 7) (wn.2 8) (wn.2 4 v) i) (sg.1 0) = 0)) (sg.1 4))) hx hb hr (fun t ht hW => ⟨nI (cnt (fun i => decide (lifF (fun v => sdb (wn.2 7) (wn.2 8) (wn.2 4 v) i) (sg.1 0) = 0)) (sg.1 4)), rfl, by rw [tolA, if_neg (show ¬ (7 : Int32) = (0 : Int32) by decide), if_neg (show ¬ (7 : Int32) = (1 : Int32) by decide), if_neg (show ¬ (7 : Int32) = (2 : Int32) by decide), if_neg (show ¬ (7 : Int32) = (3 : Int32) by decide), if_neg (show ¬ (7 : Int32) = (4 : Int32) by decide), if_neg (show ¬ (7 : Int32) = (5 : Int32) by decide), if_neg (show ¬ (7 : Int32) = (6 : Int32) by decide), if_pos rfl]; exact congrArg nI (cnt_c _ (fun i hi => congrArg (fun q : Int32 => decide (q = 0)) (lifF_c _ (fun v hv => by rw [hC.2.2.2.2.2.1 v (by omega)]; exact hC.sd _ i hi)))), ht⟩) (fun _ h9 => by cases h9) dX4_told_150
  by_cases q1_8 : what = 8
  · skip
    subst q1_8
    refine lv_tableIn (tgt := 151) hx hb dX4_told_1 (by decide) (by decide) rfl (by decide) ?_
    refine lv_aload_n hx hb dX4_told_151 rfl (lv_at hl 0 rfl) ?_
    refine va_get (D := gD G) (ci := 4) (v := .ref (h 50)) (C := RX4) (T := TX4) (N := 9) hx hb hts hiX4 hown hK hP 0 (xp_0 _ _ _ _ _ _ _ _ _ _ _ _) rfl 4 (by decide) k30 (fun _ h9 => h9) rfl dX4_told_152 ?_
    refine va_getN (D := gD G) (ci := 1) (v := .int (rd.1 1)) (C := RX1) (T := TX1) (N := 10) hx hb hts hiX1 hown hK hP 35 (xp_35 _ _ _ _ _ _ _ _ _ _ _ _) rfl 1 (by decide) k61 (fun _ h9 => h9) rfl dX4_told_155 ?_
    refine topE hRX.2.2.2.1 ?_
    exact W.iret (v := nI (sg.1 10)) hx hb hr (fun t ht hW => ⟨nI (sg.1 10), rfl, by rw [tolA, if_neg (show ¬ (8 : Int32) = (0 : Int32) by decide), if_neg (show ¬ (8 : Int32) = (1 : Int32) by decide), if_neg (show ¬ (8 : Int32) = (2 : Int32) by decide), if_neg (show ¬ (8 : Int32) = (3 : Int32) by decide), if_neg (show ¬ (8 : Int32) = (4 : Int32) by decide), if_neg (show ¬ (8 : Int32) = (5 : Int32) by decide), if_neg (show ¬ (8 : Int32) = (6 : Int32) by decide), if_neg (show ¬ (8 : Int32) = (7 : Int32) by decide), if_pos rfl], ht⟩) (fun _ h9 => by cases h9) dX4_told_158
  by_cases q1_9 : what = 9
  · skip
    subst q1_9
    refine lv_tableIn (tgt := 159) hx hb dX4_told_1 (by decide) (by decide) rfl (by decide) ?_
    refine lv_aload_n hx hb dX4_told_159 rfl (lv_at hl 0 rfl) ?_
    refine va_get (D := gD G) (ci := 4) (v := .ref (h 70)) (C := RX4) (T := TX4) (N := 9) hx hb hts hiX4 hown hK hP 0 (xp_0 _ _ _ _ _ _ _ _ _ _ _ _) rfl 5 (by decide) k37 (fun _ h9 => h9) rfl dX4_told_160 ?_
    refine cRi (w := sv G (fun k => h (70 + k)) z jj) (As := []) (rest := []) ⟨hx, hb, hml, hown, hts⟩ (mt_X2_countThereF l G (fun k => h (70 + k)) z jj) (cwV 0 hts gX4_told_X2_countThere rfl rfl rfl ⟨rfl, hd_X2_countThere⟩ ⟨Nat.le_of_ble_eq_true rfl, Nat.le_of_ble_eq_true rfl⟩) hK hN (hP.sub [47, 48, 49, 50, 51, 52, 53] (xf_z _ _ _ _ _ _ _ _ _ _ _ _)) 0 2 rfl rfl rfl hl.1 rfl (Nat.le_of_ble_eq_true rfl) ⟨Nat.zero_le _, Nat.zero_le _⟩ dX4_told_163 (fun r163 hw163 => ?_)
    obtain rfl := hw163
    exact W.iret (v := nI (cnt (fun i => decide (¬ z.2 1 i = -1)) 4)) hx hb hr (fun t ht hW => ⟨nI (cnt (fun i => decide (¬ z.2 1 i = -1)) 4), rfl, by rw [tolA, if_neg (show ¬ (9 : Int32) = (0 : Int32) by decide), if_neg (show ¬ (9 : Int32) = (1 : Int32) by decide), if_neg (show ¬ (9 : Int32) = (2 : Int32) by decide), if_neg (show ¬ (9 : Int32) = (3 : Int32) by decide), if_neg (show ¬ (9 : Int32) = (4 : Int32) by decide), if_neg (show ¬ (9 : Int32) = (5 : Int32) by decide), if_neg (show ¬ (9 : Int32) = (6 : Int32) by decide), if_neg (show ¬ (9 : Int32) = (7 : Int32) by decide), if_neg (show ¬ (9 : Int32) = (8 : Int32) by decide), if_pos rfl]; exact congrArg nI (cnt_c 4 (ShX_th hRX.2.2.2.2.2.2.2.2 hIS)), ht⟩) (fun _ h9 => by cases h9) dX4_told_166
  have t1_0 : ¬ what.toInt = 0 := lv_neT q1_0 rfl
  have t1_1 : ¬ what.toInt = 1 := lv_neT q1_1 rfl
  have t1_2 : ¬ what.toInt = 2 := lv_neT q1_2 rfl
  have t1_3 : ¬ what.toInt = 3 := lv_neT q1_3 rfl
  have t1_4 : ¬ what.toInt = 4 := lv_neT q1_4 rfl
  have t1_5 : ¬ what.toInt = 5 := lv_neT q1_5 rfl
  have t1_6 : ¬ what.toInt = 6 := lv_neT q1_6 rfl
  have t1_7 : ¬ what.toInt = 7 := lv_neT q1_7 rfl
  have t1_8 : ¬ what.toInt = 8 := lv_neT q1_8 rfl
  have t1_9 : ¬ what.toInt = 9 := lv_neT q1_9 rfl
  refine lv_tableOut (tgt := 167) hx hb dX4_told_1 (by omega) (by decide) ?_
  refine lv_ldc (v := (-1000000002 : Int32)) hx hb hown (hts (.constant RX4 56 (-1000000002)) (List.mem_of_getElem? (i := 5) rfl)) dX4_told_167 ?_
  exact W.iret (v := (-1000000002 : Int32)) hx hb hr (fun t ht hW => ⟨(-1000000002 : Int32), rfl, by rw [tolA, if_neg q1_0, if_neg q1_1, if_neg q1_2, if_neg q1_3, if_neg q1_4, if_neg q1_5, if_neg q1_6, if_neg q1_7, if_neg q1_8, if_neg q1_9], ht⟩) (fun _ h9 => by cases h9) dX4_told_169
