/-! Int32 by its bits (began as kit/laws/BITS.to-paste) -/
def bt (x : Int32) (i : Nat) : Bool := x.toBitVec.getLsbD i
theorem b_ext {x y : Int32} (h : ∀ i, i < 32 → bt x i = bt y i) : x = y := Int32.toBitVec_inj.mp (BitVec.eq_of_getLsbD_eq (fun i hi => h i hi))
theorem b_or (x y : Int32) (i : Nat) : bt (x ||| y) i = (bt x i || bt y i) := by unfold bt; rw [Int32.toBitVec_or, BitVec.getLsbD_or]
theorem b_and (x y : Int32) (i : Nat) : bt (x &&& y) i = (bt x i && bt y i) := by unfold bt; rw [Int32.toBitVec_and, BitVec.getLsbD_and]
theorem b_big {x : Int32} {i : Nat} (h : 32 ≤ i) : bt x i = false := BitVec.getLsbD_of_ge _ _ h
theorem b_0 (i : Nat) : bt 0 i = false := BitVec.getLsbD_zero
theorem s_l : ∀ n, n < 32 → ((nI n &&& 31).toBitVec.smod 32).toNat = n := by decide +kernel
theorem b_shl (n : Nat) (hn : n < 32) (x : Int32) {i : Nat} (hi : i < 32) : bt (x <<< (nI n &&& 31)) i = (decide (n ≤ i) && bt x (i - n)) := by
  unfold bt
  rw [Int32.toBitVec_shiftLeft]
  show (x.toBitVec <<< ((nI n &&& 31).toBitVec.smod 32).toNat).getLsbD i = _
  rw [s_l n hn, BitVec.getLsbD_shiftLeft]
  rcases Nat.lt_or_ge i n with h | h
  · simp [h, Nat.not_le.mpr h]
  · simp [hi, h, Nat.not_lt.mpr h]
theorem b_sshr (n : Nat) (hn : n < 32) (x : Int32) {i : Nat} (hi : i < 32) : bt (x >>> (nI n &&& 31)) i = if n + i < 32 then bt x (n + i) else bt x 31 := by
  unfold bt
  rw [Int32.toBitVec_shiftRight]
  show (x.toBitVec.sshiftRight ((nI n &&& 31).toBitVec.smod 32).toNat).getLsbD i = _
  rw [s_l n hn, BitVec.getLsbD_sshiftRight, BitVec.msb_eq_getLsbD_last]
  simp [hi]
/-! the class's words for sets, its stack of blocks -/
def onl (x : Int32) : Int32 := if x < 0 then nI 0 else if nI 24 ≤ x then nI 0 else (1 : Int32) <<< (x &&& 31)
theorem onl_n {v : Nat} (h : v < 24) : onl (nI v) = b1 v := by
  unfold onl
  rw [if_neg (nI_pos (by omega)), if_neg (fun q => by have := (nI_leI (a := 24) (b := v) (by omega) (by omega)).mp q; omega)]
theorem bt_b1 {v : Nat} (hv : v < 32) (j : Nat) : bt (b1 v) j = decide (j = v) := by
  rcases Nat.lt_or_ge j 32 with hj | hj
  · have h1 : ∀ k, k < 32 → bt 1 k = decide (k = 0) := by decide +kernel
    show bt ((1 : Int32) <<< (nI v &&& 31)) j = _
    rw [b_shl v hv 1 hj, h1 (j - v) (by omega)]
    by_cases h : v ≤ j
    · by_cases e : j = v
      · rw [decide_eq_true h, decide_eq_true (show j - v = 0 by omega), decide_eq_true e]; rfl
      · rw [decide_eq_true h, decide_eq_false (show ¬ j - v = 0 by omega), decide_eq_false e]; rfl
    · rw [decide_eq_false h, decide_eq_false (show ¬ j = v by omega)]; rfl
  · rw [b_big hj, decide_eq_false (show ¬ j = v by omega)]
theorem hasb_bt {se : Int32} {k : Nat} (hk : k < 24) : hasb se k = bt se k := by
  have e1 : ∀ i, i < 32 → bt 1 i = decide (i = 0) := by decide +kernel
  have key : ((se >>> (nI k &&& 31)) &&& 1 = 1) ↔ bt se k = true := by
    constructor
    · intro h
      have h2 := congrArg (fun y => bt y 0) h
      simp only [b_and] at h2
      rw [b_sshr k (by omega) se (by omega), if_pos (by omega), e1 0 (by omega), decide_eq_true rfl, Bool.and_true] at h2
      exact h2
    · intro h
      apply b_ext
      intro i hi
      rw [b_and, e1 i hi]
      by_cases e : i = 0
      · subst e
        rw [b_sshr k (by omega) se (by omega), if_pos (by omega)]
        show (bt se k && decide (0 = 0)) = decide (0 = 0)
        rw [h]
        rfl
      · rw [decide_eq_false e, Bool.and_false]
  unfold hasb
  by_cases h : bt se k = true
  · rw [h]; exact decide_eq_true (key.mpr h)
  · rw [decide_eq_false (fun q => h (key.mp q))]
    cases hb : bt se k
    · rfl
    · exact absurd hb h
theorem hol_iff {se : Int32} {v : Nat} (hv : v < 24) : se &&& b1 v = 0 ↔ bt se v = false := by
  constructor
  · intro h
    have h2 := congrArg (fun y => bt y v) h
    simp only [b_and, b_0] at h2
    rw [bt_b1 (by omega), decide_eq_true rfl, Bool.and_true] at h2
    exact h2
  · intro h
    apply b_ext
    intro i hi
    rw [b_and, bt_b1 (by omega), b_0]
    by_cases e : i = v
    · subst e; rw [h]; rfl
    · rw [decide_eq_false e, Bool.and_false]
theorem hol_t {se x : Int32} {v : Nat} (h : ¬ se &&& onl x = 0) (hv : v < 24) (e : x = nI v) : hasb se v = true := by
  subst e
  rw [onl_n hv] at h
  rw [hasb_bt hv]
  cases hb : bt se v
  · exact absurd ((hol_iff hv).mpr hb) h
  · rfl
theorem hol_f {se x : Int32} {v : Nat} (h : se &&& onl x = 0) (hv : v < 24) (e : x = nI v) : ¬ hasb se v = true := by
  subst e
  rw [onl_n hv] at h
  rw [hasb_bt hv, (hol_iff hv).mp h]
  decide
theorem cnt_add {p q : Nat → Bool} {v : Nat} (hv : p v = false) (hq : ∀ k, q k = (p k || decide (k = v))) : ∀ n, cnt q n = cnt p n + (if v < n then 1 else 0)
  | 0 => rfl
  | n + 1 => by
    rw [cnt, cnt, cnt_add hv hq n, hq n]
    by_cases e : n = v
    · subst e
      rw [hv, decide_eq_true rfl, if_neg (Nat.lt_irrefl n), if_pos (Nat.lt_succ_self n)]
      rfl
    · rw [decide_eq_false e, Bool.or_false]
      by_cases h : v < n
      · rw [if_pos h, if_pos (show v < n + 1 by omega)]; omega
      · rw [if_neg h, if_neg (show ¬ v < n + 1 by omega)]; omega
theorem bt_or1 (x : Int32) {v : Nat} (hv : v < 32) (k : Nat) : bt (x ||| b1 v) k = (bt x k || decide (k = v)) := by rw [b_or, bt_b1 hv]
theorem cnt_b0 : ∀ n, cnt (bt (nI 0)) n = 0
  | 0 => rfl
  | n + 1 => by rw [cnt, cnt_b0 n, show bt (nI 0) n = false from b_0 n]; rfl
theorem cnt_b1 {x : Int32} {v n : Nat} (hv : v < n) (hn : n ≤ 24) (h : ¬ hasb x v = true) : cnt (bt (x ||| b1 v)) n = cnt (bt x) n + 1 := by
  have h1 : bt x v = false := by
    rw [hasb_bt (by omega)] at h
    cases hb : bt x v
    · rfl
    · exact absurd hb h
  rw [cnt_add h1 (bt_or1 x (by omega)) n, if_pos hv]
/-- the blocks around a place: each younger than who brings there, none that takes there already -/
def PIb (bk bi : Nat → Int32) (dp : Nat) : Prop := ∀ d, d < dp → ∃ v, v < 24 ∧ bk d = nI v ∧ (bi d = 0 ∨ bi d = 1) ∧ brA bk bi d < nI v ∧ (bi d = 0 → ¬ hasb (tkA bk bi d) v = true)
theorem nI_inj5 {a b : Nat} (ha : a ≤ 100000) (hb : b ≤ 100000) (h : nI a = nI b) : a = b := (nI_eq (a := a) (b := b) (by omega) (by omega)).mp h
theorem nI_lti {a b : Nat} (ha : a ≤ 100000) (hb : b ≤ 100000) : nI a < nI b ↔ a < b := nI_ltI (by omega) (by omega)
theorem m1_lt {v : Nat} (h : v ≤ 100000) : (-1 : Int32) < nI v := by
  rw [Int32.lt_iff_toInt_lt, nI_T h]
  have : (-1 : Int32).toInt = -1 := rfl
  omega
section PIB
variable {bk bi : Nat → Int32}
theorem PIb_br : ∀ {dp : Nat}, PIb bk bi dp → (cnt (fun k => decide (¬ bi k = 0)) dp = 0 ∧ brA bk bi dp = -1) ∨ (∃ b, b < 24 ∧ brA bk bi dp = nI b ∧ cnt (fun k => decide (¬ bi k = 0)) dp ≤ b + 1)
  | 0, _ => Or.inl ⟨rfl, rfl⟩
  | d + 1, h => by
    have ih := PIb_br (dp := d) (fun k hk => h k (by omega))
    obtain ⟨v, hv, ev, hz, hlt, -⟩ := h d (by omega)
    by_cases e : bi d = 0
    · rw [brA, if_pos e, cnt_f (decide_eq_false (not_not_intro e))]
      exact ih
    · rw [brA, if_neg e, cnt_t (decide_eq_true e), ev]
      refine Or.inr ⟨v, hv, rfl, ?_⟩
      rcases ih with ⟨h1, -⟩ | ⟨b, h1, h2, h3⟩
      · omega
      · rw [h2, nI_lti (by omega) (by omega)] at hlt
        omega
theorem PIb_tk : ∀ {dp : Nat}, PIb bk bi dp → cnt (bt (tkA bk bi dp)) 24 = cnt (fun k => decide (bi k = 0)) dp
  | 0, _ => cnt_b0 24
  | d + 1, h => by
    have ih := PIb_tk (dp := d) (fun k hk => h k (by omega))
    obtain ⟨v, hv, ev, hz, hlt, hn⟩ := h d (by omega)
    by_cases e : bi d = 0
    · rw [tkA, if_pos e, cnt_t (p := fun k => decide (bi k = 0)) (decide_eq_true e), ev, ← ih]
      exact cnt_b1 hv (by omega) (hn e)
    · rw [tkA, if_neg e, cnt_f (p := fun k => decide (bi k = 0)) (decide_eq_false e), Int32.or_zero]
      exact ih
theorem cnt_pn (bi : Nat → Int32) : ∀ n, cnt (fun k => decide (¬ bi k = 0)) n + cnt (fun k => decide (bi k = 0)) n = n
  | 0 => rfl
  | n + 1 => by
    have ih := cnt_pn bi n
    by_cases e : bi n = 0
    · rw [cnt_f (decide_eq_false (not_not_intro e)), cnt_t (decide_eq_true e)]; omega
    · rw [cnt_t (decide_eq_true e), cnt_f (decide_eq_false e)]; omega
theorem PIb_48 {dp v : Nat} (h : PIb bk bi dp) (hv : v < 24) (hb : brA bk bi dp < nI v) : dp < 48 := by
  have h1 := PIb_br h
  have h2 := PIb_tk h
  have h3 := cnt_le (bt (tkA bk bi dp)) 24
  have h4 := cnt_pn bi dp
  rcases h1 with ⟨h5, -⟩ | ⟨b, h5, h6, h7⟩
  · omega
  · rw [h6, nI_lti (by omega) (by omega)] at hb
    omega
theorem mayB_iff {v : Nat} {z : Bool} (hv : v < 24) : ∀ {dp : Nat}, PIb bk bi dp → (mayB bk bi v z dp = true ↔ (brA bk bi dp < nI v ∧ (z = true ∨ ¬ hasb (tkA bk bi dp) v = true)))
  | 0, _ => by
    refine ⟨fun _ => ⟨m1_lt (by omega), Or.inr ?_⟩, fun _ => rfl⟩
    rw [hasb_bt hv, show tkA bk bi 0 = 0 from rfl, b_0]
    decide
  | d + 1, h => by
    have ih := mayB_iff (z := z) hv (dp := d) (fun k hk => h k (by omega))
    obtain ⟨w, hw, ew, hz, hlt, hn⟩ := h d (by omega)
    by_cases e : bi d = 0
    · rw [mayB, brA, tkA, if_pos e, if_pos e, if_pos e, Bool.and_eq_true, ih, ew, Bool.or_eq_true, decide_eq_true_iff]
      have hc : hasb (tkA bk bi d ||| (1 : Int32) <<< (nI w &&& 31)) v = (hasb (tkA bk bi d) v || decide (v = w)) := by
        rw [hasb_bt hv, hasb_bt hv]
        exact bt_or1 _ (by omega) v
      rw [hc]
      have hvw : nI v = nI w ↔ v = w := nI_eq (by omega) (by omega)
      rw [hvw]
      constructor
      · rintro ⟨⟨h1, h2⟩, h3⟩
        refine ⟨h1, ?_⟩
        rcases h2 with h2 | h2
        · exact Or.inl h2
        · rcases h3 with h3 | h3
          · exact Or.inl h3
          · right
            rw [decide_eq_false h3, Bool.or_false]
            exact h2
      · rintro ⟨h1, h2⟩
        rcases h2 with h2 | h2
        · exact ⟨⟨h1, Or.inl h2⟩, Or.inl h2⟩
        · refine ⟨⟨h1, Or.inr (fun q => h2 (by rw [q]; rfl))⟩, Or.inr (fun q => h2 ?_)⟩
          rw [decide_eq_true q, Bool.or_true]
    · rw [mayB, brA, tkA, if_neg e, if_neg e, if_neg e, Bool.and_eq_true, ih, Int32.or_zero, decide_eq_true_iff, Int32.not_le]
      constructor
      · rintro ⟨⟨h1, h2⟩, h3⟩
        exact ⟨h3, h2⟩
      · rintro ⟨h1, h2⟩
        refine ⟨⟨?_, h2⟩, h1⟩
        rw [Int32.lt_iff_toInt_lt] at h1 hlt ⊢
        rw [← ew] at hlt
        omega
theorem PIb.push {dp v : Nat} {z : Bool} {x : Int32} (h : PIb bk bi dp) (hv : v < 24) (hm : mayB bk bi v z dp = true) (hx : x = if z = true then 1 else 0) : PIb (upd bk dp (nI v)) (upd bi dp x) (dp + 1) := by
  have hm2 := (mayB_iff hv h).mp hm
  have e1 : ∀ d, d ≤ dp → rwE (upd bk dp (nI v)) bk d := fun d hd k hk => pk_un (by omega)
  have e2 : ∀ d, d ≤ dp → rwE (upd bi dp x) bi d := fun d hd k hk => pk_un (by omega)
  intro d hd
  rw [brA_c d (e1 d (by omega)) (e2 d (by omega)), tkA_c d (e1 d (by omega)) (e2 d (by omega))]
  by_cases e : d = dp
  · subst e
    rw [pk_us, pk_us]
    refine ⟨v, hv, rfl, ?_, hm2.1, fun q => ?_⟩
    · cases z
      · exact Or.inl hx
      · exact Or.inr hx
    · rcases hm2.2 with h3 | h3
      · subst h3
        rw [hx] at q
        exact absurd q (by decide)
      · exact h3
  · rw [pk_un e, pk_un e]
    exact h d (by omega)
end PIB
theorem upTo_eq : ∀ v, v < 24 → ((b1 v) <<< ((1 : Int32) &&& 31)) - (1 : Int32) = ((2 : Int32) <<< (nI v &&& 31)) - 1 := by decide +kernel
/-! the class's reading: its rows, its sets of changes -/
theorem chG_c {par inc exc par' inc' exc' : Nat → Int32} : ∀ (f i : Nat), i < 2 ^ 31 → parOK par (i + 1) → (∀ j, j ≤ i → par j = par' j ∧ inc j = inc' j ∧ exc j = exc' j) → chG par inc exc f (nI i) = chG par' inc' exc' f (nI i) := by
  intro f
  induction f with
  | zero => intro i _ _ _; rfl
  | succ f ih =>
    intro i hi hp h
    rw [chG_s hi, chG_s hi]
    obtain ⟨h1, h2, h3⟩ := h i (Nat.le_refl i)
    have e : chG par inc exc f (par i) = chG par' inc' exc' f (par' i) := by
      rw [← h1]
      rcases hp i (by omega) with q | ⟨t, ht, q⟩
      · rw [q, chG_m1, chG_m1]
      · rw [q]
        exact ih t (by omega) (hp.le (by omega)) (fun j hj => h j (by omega))
    rw [e]
    unfold chF
    rw [h2, h3]
theorem chV_c {par inc exc par' inc' exc' : Nat → Int32} {i : Nat} (hi : i < 2 ^ 31) (hp : parOK par (i + 1)) (h : ∀ j, j ≤ i → par j = par' j ∧ inc j = inc' j ∧ exc j = exc' j) : chV par inc exc (nI i) = chV par' inc' exc' (nI i) := chG_c 25 i hi hp h
def chOK (w : oS) (n : Nat) : Prop := ∀ i, i < n → w.2 4 i = chV (w.2 1) (w.2 2) (w.2 3) (nI i)
def stW (w : oS) (nv : Nat) : oS := oA w 4 (upd (w.2 4) nv (chF (w.2 2) (w.2 3) nv (chV (w.2 1) (w.2 2) (w.2 3) (w.2 1 nv))))
def bgW (w : oS) (nv : Nat) (a b d : Int32) : oS := stW (oA (oA (oA w 1 (upd (w.2 1) nv a)) 2 (upd (w.2 2) nv b)) 3 (upd (w.2 3) nv d)) nv
theorem chOK_3 {w : oS} {nv : Nat} {a b d : Int32} (h : chOK w nv) (hp : parOK (w.2 1) nv) (hv : nv ≤ 24) : chOK (oA (oA (oA w 1 (upd (w.2 1) nv a)) 2 (upd (w.2 2) nv b)) 3 (upd (w.2 3) nv d)) nv := by
  intro i hi
  show w.2 4 i = chV (upd (w.2 1) nv a) (upd (w.2 2) nv b) (upd (w.2 3) nv d) (nI i)
  rw [h i hi]
  exact chV_c (by omega) (hp.le (by omega)) (fun j hj => ⟨(pk_un (by omega)).symm, (pk_un (by omega)).symm, (pk_un (by omega)).symm⟩)
theorem chOK_st {w : oS} {nv : Nat} (h : chOK w nv) (hp : parOK (w.2 1) (nv + 1)) (hv : nv < 24) : chOK (stW w nv) (nv + 1) := by
  intro i hi
  show upd (w.2 4) nv (chF (w.2 2) (w.2 3) nv (chV (w.2 1) (w.2 2) (w.2 3) (w.2 1 nv))) i = chV (w.2 1) (w.2 2) (w.2 3) (nI i)
  by_cases e : i = nv
  · subst e
    rw [pk_us, chV_s (by omega) hp]
  · rw [pk_un e]
    exact h i (by omega)
theorem chOK_bg {w : oS} {nv : Nat} {a b d : Int32} (h : chOK w nv) (hp : parOK (w.2 1) nv) (ha : a = -1 ∨ ∃ t, t < nv ∧ a = nI t) (hv : nv < 24) : chOK (bgW w nv a b d) (nv + 1) := chOK_st (chOK_3 h hp (by omega)) (parOK_upd hp ha) hv
def insR (f : Nat → Int32) (a n : Nat) (c : Int32) : Nat → Int32 := upd (va_cpy f f a (a + 1) (n - a)) a c
theorem insR_end (f : Nat → Int32) (n : Nat) (c : Int32) : insR f n n c = upd f n c := by
  unfold insR
  have e : va_cpy f f n (n + 1) (n - n) = f := by
    funext k
    unfold va_cpy
    rw [if_neg (by omega)]
  rw [e]
theorem w678 (u : oS) (a b c x y z : Nat → Int32) : oA (oA (oA (oA (oA (oA u 6 a) 7 b) 8 c) 6 x) 7 y) 8 z = oA (oA (oA u 6 x) 7 y) 8 z := by
  unfold oA
  simp only [Prod.mk.injEq, true_and]
  funext j
  unfold va_up
  by_cases h8 : j = 8
  · simp [h8]
  · by_cases h7 : j = 7
    · simp [h7]
    · by_cases h6 : j = 6
      · simp [h6]
      · simp [h6, h7, h8]
def insW (w : oS) (a nl : Nat) (x y z : Int32) : oS := oI (oA (oA (oA w 6 (insR (w.2 6) a nl x)) 7 (insR (w.2 7) a nl y)) 8 (insR (w.2 8) a nl z)) 5 (nI (nl + 1))
def RwC (rd w : oS) (s : pS) : Prop := rwE (w.2 1) (s.2 16) (s.1 15) ∧ rwE (w.2 2) (s.2 17) (s.1 15) ∧ rwE (w.2 3) (s.2 18) (s.1 15) ∧ rwE (w.2 6) (s.2 20) (s.1 19) ∧ rwE (w.2 7) (s.2 21) (s.1 19) ∧ rwE (w.2 8) (s.2 22) (s.1 19) ∧ rwE (rd.2 7) (s.2 24) (s.1 23) ∧ rwE (rd.2 6) (s.2 25) (s.1 23) ∧ chOK w (s.1 15)
def RSc (rd w : oS) (n : Nat) (s : pS) : Prop := rd.1 1 = nI n ∧ rd.1 2 = nI (s.1 12) ∧ rd.1 8 = nI (s.1 23) ∧ w.1 0 = nI (s.1 15) ∧ w.1 5 = nI (s.1 19) ∧ PIs n s ∧ RwC rd w s
theorem RwC_v {rd q w : oS} {n : Nat} {s : pS} {t : Nat → Int32} {v e : Nat} {x y : Int32} (h : RwC rd w s) (hp : parOK (w.2 1) (s.1 15)) (hv : s.1 15 < 24) (ha : v = 99 ∨ v < s.1 15) (e7 : q.2 7 = rd.2 7) (e6 : q.2 6 = rd.2 6) : RwC q (oI (bgW w (s.1 15) (if v = 99 then -1 else nI v) x y) 0 (nI (s.1 15 + 1))) (vOK t n s v e x y) := by
  obtain ⟨h1, h2, h3, h4, h5, h6, h7, h8, h9⟩ := h
  have ha2 : (if v = 99 then (-1 : Int32) else nI v) = -1 ∨ ∃ t, t < s.1 15 ∧ (if v = 99 then (-1 : Int32) else nI v) = nI t := by
    by_cases e : v = 99
    · exact Or.inl (if_pos e)
    · exact Or.inr ⟨v, by omega, if_neg e⟩
  unfold RwC
  rw [e7, e6]
  exact ⟨h1.upd _, h2.upd x, h3.upd y, h4, h5, h6, h7, h8, chOK_bg h9 hp ha2 hv⟩
theorem RwC_b {rd q w : oS} {n : Nat} {s : pS} {t : Nat → Int32} {a1 : Nat} {z : Bool} {y : Int32} (h : RwC rd w s) (hy : y = if z = true then 1 else 0) (e7 : q.2 7 = upd (rd.2 7) (s.1 23) (nI (nV t n a1))) (e6 : q.2 6 = upd (rd.2 6) (s.1 23) y) : RwC q w (bOK t n z s a1) := by
  obtain ⟨h1, h2, h3, h4, h5, h6, h7, h8, h9⟩ := h
  unfold RwC
  rw [e7, e6]
  refine ⟨h1, h2, h3, h4, h5, h6, h7.upd _, ?_, h9⟩
  show rwE _ (upd (s.2 25) (s.1 23) (if z = true then 1 else 0)) (s.1 23 + 1)
  rw [← hy]
  exact h8.upd y
theorem RwC_l {rd q w : oS} {s : pS} {c x y : Int32} (h : RwC rd w s) (e7 : q.2 7 = rd.2 7) (e6 : q.2 6 = rd.2 6) : RwC q (insW w (s.1 19) (s.1 19) c x y) (lOK c s x y) := by
  obtain ⟨h1, h2, h3, h4, h5, h6, h7, h8, h9⟩ := h
  unfold RwC
  rw [e7, e6]
  refine ⟨h1, h2, h3, ?_, ?_, ?_, h7, h8, h9⟩
  · show rwE (insR (w.2 6) (s.1 19) (s.1 19) c) _ _
    rw [insR_end]; exact h4.upd c
  · show rwE (insR (w.2 7) (s.1 19) (s.1 19) x) _ _
    rw [insR_end]; exact h5.upd x
  · show rwE (insR (w.2 8) (s.1 19) (s.1 19) y) _ _
    rw [insR_end]; exact h6.upd y
theorem RwC_c {rd q w : oS} {s : pS} (h : RwC rd w s) (e7 : q.2 7 = rd.2 7) (e6 : q.2 6 = rd.2 6) : RwC q w (cOK s) := by
  obtain ⟨h1, h2, h3, h4, h5, h6, h7, h8, h9⟩ := h
  unfold RwC
  rw [e7, e6]
  exact ⟨h1, h2, h3, h4, h5, h6, h7.le (Nat.sub_le _ _), h8.le (Nat.sub_le _ _), h9⟩
theorem RwC.of {rd q w : oS} {s : pS} (h : RwC rd w s) (e7 : q.2 7 = rd.2 7) (e6 : q.2 6 = rd.2 6) : RwC q w s := by
  unfold RwC
  rw [e7, e6]
  exact h
theorem RwC_0 (rd w : oS) : RwC rd w s0 := ⟨rwE_0 _ _, rwE_0 _ _, rwE_0 _ _, rwE_0 _ _, rwE_0 _ _, rwE_0 _ _, rwE_0 _ _, rwE_0 _ _, fun i hi => absurd hi (Nat.not_lt_zero i)⟩
def WovC (p : oS) (s : pS) : Prop := p.1 0 = nI (s.1 15) ∧ p.1 5 = nI (s.1 19) ∧ s.1 15 ≤ 24 ∧ s.1 19 ≤ 120 ∧ parOK (s.2 16) (s.1 15) ∧ rwE (p.2 1) (s.2 16) (s.1 15) ∧ rwE (p.2 2) (s.2 17) (s.1 15) ∧ rwE (p.2 3) (s.2 18) (s.1 15) ∧ rwE (p.2 6) (s.2 20) (s.1 19) ∧ rwE (p.2 7) (s.2 21) (s.1 19) ∧ rwE (p.2 8) (s.2 22) (s.1 19) ∧ chOK p (s.1 15)
theorem oI_oI (u : oS) (k : Nat) (x y : Int32) : oI (oI u k x) k y = oI u k y := by
  unfold oI
  simp only [Prod.mk.injEq, and_true]
  funext j
  by_cases e : j = k
  · subst e; rw [pk_us, pk_us]
  · rw [pk_un e, pk_un e, pk_un e]
theorem dig_d {x : Int32} (h : dig x = true) : ∃ d, 48 ≤ d ∧ d ≤ 57 ∧ x = nI d := by
  have h1 := of_decide_eq_true h
  refine ⟨x.toInt.toNat, by omega, by omega, ?_⟩
  rw [← Int32.toInt_inj, nI_T (by omega)]
  omega
theorem dig_i {x : Int32} : dig x = true ↔ (¬ x < nI 48 ∧ ¬ nI 57 < x) := by
  unfold dig
  rw [decide_eq_true_iff, Int32.lt_iff_toInt_lt, Int32.lt_iff_toInt_lt]
  have e1 : (nI 48).toInt = 48 := rfl
  have e2 : (nI 57).toInt = 57 := rfl
  omega
theorem sgn_i {x : Int32} : sgn x = true ↔ (¬ x < nI 65 ∧ ¬ nI 90 < x) := by
  unfold sgn
  rw [decide_eq_true_iff, Int32.lt_iff_toInt_lt, Int32.lt_iff_toInt_lt]
  have e1 : (nI 65).toInt = 65 := rfl
  have e2 : (nI 90).toInt = 90 := rfl
  omega
theorem hasb_orn {x y : Int32} {v : Nat} (hv : v < 24) (h : ¬ hasb (x ||| y) v = true) : ¬ hasb y v = true := by
  rw [hasb_bt hv] at h ⊢
  rw [b_or] at h
  intro q
  rw [q, Bool.or_true] at h
  exact h rfl
theorem pEv_tf {t : Nat → Int32} {n : Nat} {s : pS} {r : iR} (h : ¬ hd t n (sk t n (s.1 12)) = nI 118) (hE : pEv t n false s r) : pEv t n true s r := by
  obtain ⟨f, hf⟩ := hE
  refine ⟨f + 1, fun g hg => ?_⟩
  obtain ⟨g, rfl⟩ : ∃ k, g = k + 1 := ⟨g - 1, by omega⟩
  have e : pZ t n true s = pZ t n false s := by
    unfold pZ
    rw [decide_eq_false h]
    rfl
  have e2 : pIt t n true s = pIt t n false s := by unfold pIt; rw [e]
  rw [← hf (g + 1) (by omega), pLF, pLF, e2, e]
theorem brA_24 {bk bi : Nat → Int32} {dp : Nat} (h : PIb bk bi dp) (hn : ¬ brA bk bi dp = -1) : ∃ b, b < 24 ∧ brA bk bi dp = nI b := by
  rcases PIb_br h with ⟨-, q⟩ | ⟨b, h1, h2, -⟩
  · exact absurd q hn
  · exact ⟨b, h1, h2⟩
theorem PIb.le {bk bi : Nat → Int32} {n m : Nat} (h : PIb bk bi n) (hm : m ≤ n) : PIb bk bi m := fun d hd => h d (by omega)
theorem vST_15 {t : Nat → Int32} {n p : Nat} {s s' : pS} (h : vST t n s = (0, p, s')) : s'.1 15 = s.1 15 + 1 := by
  unfold vST vSa at h
  split at h
  · cases h
  · split at h
    · rename_i q
      exact absurd (congrArg Prod.fst h) q
    · split at h
      · cases h
      · unfold vSb at h
        split at h
        · rename_i q
          exact absurd (congrArg Prod.fst h) q
        · unfold vSc at h
          split at h
          · rename_i q
            exact absurd (congrArg Prod.fst h) q
          · split at h
            · cases h
            · cases h
              rfl
def RSn (rd w : oS) (n : Nat) (s : pS) : Prop := rd.1 1 = nI n ∧ rd.1 8 = nI (s.1 23) ∧ w.1 0 = nI (s.1 15) ∧ w.1 5 = nI (s.1 19) ∧ PIs n s ∧ RwC rd w s
theorem RSc.n {rd w : oS} {n : Nat} {s : pS} (h : RSc rd w n s) : RSn rd w n s := ⟨h.1, h.2.2.1, h.2.2.2.1, h.2.2.2.2.1, h.2.2.2.2.2.1, h.2.2.2.2.2.2⟩
theorem pIt_v {t : Nat → Int32} {n : Nat} {s : pS} (h : hd t n (sk t n (s.1 12)) = nI 118) : pIt t n true s = vST t n (pN s 12 (sk t n (s.1 12))) ∧ pZ t n true s = true := by
  have e : pZ t n true s = true := by
    unfold pZ
    rw [decide_eq_true h]
    rfl
  refine ⟨?_, e⟩
  unfold pIt
  rw [e]
  exact iST_v h rfl
set_option maxHeartbeats 1000000 in
set_option maxRecDepth 100000 in
theorem mt_X3_onlyF (l : Launch) (x : Int32) : Met l yX3_only wsX3_only ({ frames := 0, cells := 0, slots := 0, locals := 0 }) (preS [.int x]) (vp_Si (fun r : Int32 => r = onl x)) 0 0 (fun _ => False) := by
  refine Met.ofW (cc := cX3_only) (maxL := 1) (ret := (some .int)) (by decide) rfl ?_
  intro p e s m args below meth c s₁ B hml hv
  obtain ⟨ha, -⟩ := hv
  subst ha
  have hx := B.exec
  have hb := B.bytes
  have hr := B.returns
  have hts := atoms_spec (ws := wsX3_only) B.pre
  have hown : s.vm.findClass RX3 = some m.cls := findClass_of_methodNamed B.named
  have hlocks := B.notSynchronized
  have hl := lv_entry ([.int x]) (n := 1) (Nat.le_of_ble_eq_true rfl)
  rw [lg_entry_eq]
  generalize (lg_sl ([.int x]) ++ List.replicate (1 - (lg_sl ([.int x])).length) Slot.unset).toArray = ls at hl ⊢
  have hl : lv_has ls 1 [(0, .int x)] := hl
  refine lv_iload_n hx hb dX3_only_0 rfl (lv_at hl 0 rfl) ?_
  refine lv_if_lt (tgt := 16) hx hb dX3_only_1 (by decide) (fun c1 => ?_) (fun c1 => ?_)
  · skip
    refine lv_iconst (v := nI 0) hx hb dX3_only_16 (by decide) ?_
    exact W.iret (v := nI 0) hx hb hr (fun t ht hW => ⟨nI 0, rfl, by unfold onl; first | rw [if_pos (by assumption)] | rw [if_neg (by assumption), if_pos (by assumption)] | rw [if_neg (by assumption), if_neg (by assumption)], ht⟩) (fun _ h9 => by cases h9) dX3_only_17
  · skip
    refine lv_iload_n hx hb dX3_only_4 rfl (lv_at hl 0 rfl) ?_
    refine lv_bipush (v := nI 24) hx hb dX3_only_5 (by decide) ?_
    refine lv_icmp_ge (tgt := 16) hx hb dX3_only_7 (by decide) (fun c7 => ?_) (fun c7 => ?_)
    · skip
      refine lv_iconst (v := nI 0) hx hb dX3_only_16 (by decide) ?_
      exact W.iret (v := nI 0) hx hb hr (fun t ht hW => ⟨nI 0, rfl, by unfold onl; first | rw [if_pos (by assumption)] | rw [if_neg (by assumption), if_pos (by assumption)] | rw [if_neg (by assumption), if_neg (by assumption)], ht⟩) (fun _ h9 => by cases h9) dX3_only_17
    · skip
      refine lv_iconst (v := (1 : Int32)) hx hb dX3_only_10 (by decide) ?_
      refine lv_iload_n hx hb dX3_only_11 rfl (lv_at hl 0 rfl) ?_
      refine lv_ishl hx hb dX3_only_12 ?_
      refine lv_goto (tgt := 17) hx hb dX3_only_13 (by decide) ?_
      exact W.iret (v := (1 : Int32) <<< (x &&& 31)) hx hb hr (fun t ht hW => ⟨(1 : Int32) <<< (x &&& 31), rfl, by unfold onl; first | rw [if_pos (by assumption)] | rw [if_neg (by assumption), if_pos (by assumption)] | rw [if_neg (by assumption), if_neg (by assumption)], ht⟩) (fun _ h9 => by cases h9) dX3_only_17
set_option maxHeartbeats 1000000 in
set_option maxRecDepth 100000 in
theorem mt_X3_holdsF (l : Launch) (se : Int32) (x : Int32) : Met l yX3_holds wsX3_holds ({ frames := 1, cells := 0, slots := 0, locals := 20 }) (preS [.int se, .int x]) (vp_Si (fun r : Int32 => (r = 1 ∧ ¬ se &&& onl x = 0) ∨ (r = 0 ∧ se &&& onl x = 0))) 0 0 (fun _ => False) := by
  refine Met.ofW (cc := cX3_holds) (maxL := 2) (ret := (some .boolean)) (by decide) rfl ?_
  intro p e s m args below meth c s₁ B hml hv
  obtain ⟨ha, -⟩ := hv
  subst ha
  have hx := B.exec
  have hb := B.bytes
  have hr := B.returns
  have hts := atoms_spec (ws := wsX3_holds) B.pre
  have hown : s.vm.findClass RX3 = some m.cls := findClass_of_methodNamed B.named
  have hlocks := B.notSynchronized
  have hl := lv_entry ([.int se, .int x]) (n := 2) (Nat.le_of_ble_eq_true rfl)
  rw [lg_entry_eq]
  generalize (lg_sl ([.int se, .int x]) ++ List.replicate (2 - (lg_sl ([.int se, .int x])).length) Slot.unset).toArray = ls at hl ⊢
  have hl : lv_has ls 2 [(0, .int se), (1, .int x)] := hl
  refine lv_iload_n hx hb dX3_holds_0 rfl (lv_at hl 0 rfl) ?_
  refine lv_iload_n hx hb dX3_holds_1 rfl (lv_at hl 1 rfl) ?_
  refine cSi (As := [.int x]) (rest := [.int se]) ⟨hx, hb, hml, hown, hts⟩ (mt_X3_onlyF l x) (va_cwS 1 hts gX3_holds_X3_only rfl rfl rfl hd_X3_only ⟨Nat.le_of_ble_eq_true rfl, Nat.le_of_ble_eq_true rfl⟩) rfl hl.1 rfl (Nat.le_of_ble_eq_true rfl) ⟨Nat.zero_le _, Nat.zero_le _⟩ dX3_holds_2 (fun r2 hw2 => ?_)
  obtain rfl := hw2
  refine lv_iand hx hb dX3_holds_5 ?_
  refine lv_if_eq (tgt := 13) hx hb dX3_holds_6 (by decide) (fun c6 => ?_) (fun c6 => ?_)
  · skip
    refine lv_iconst (v := nI 0) hx hb dX3_holds_13 (by decide) ?_
    exact W.zret (v := nI 0) hx hb hr (by decide) (fun t ht hW => ⟨nI 0, rfl, by first | exact Or.inl ⟨rfl, by assumption⟩ | exact Or.inr ⟨rfl, by assumption⟩, ht⟩) (fun _ h9 => by cases h9) dX3_holds_14
  · skip
    refine lv_iconst (v := nI 1) hx hb dX3_holds_9 (by decide) ?_
    refine lv_goto (tgt := 14) hx hb dX3_holds_10 (by decide) ?_
    exact W.zret (v := nI 1) hx hb hr (by decide) (fun t ht hW => ⟨nI 1, rfl, by first | exact Or.inl ⟨rfl, by assumption⟩ | exact Or.inr ⟨rfl, by assumption⟩, ht⟩) (fun _ h9 => by cases h9) dX3_holds_14
set_option maxHeartbeats 1000000 in
set_option maxRecDepth 100000 in
theorem mt_X3_changesOfF (l : Launch) (G : gG) (h : Nat → Nat) (w : oS) (x : Int32) : Met l yX3_changesOf wsX3_changesOf ({ frames := 0, cells := 0, slots := 0, locals := 0 }) (preR G (wv G h w) [.ref (h 0), .int x]) (vp_Si (fun r : Int32 => (∀ j, j < 24 → x = nI j → r = w.2 4 j) ∧ (x = -1 → r = nI 0))) 0 0 (fun _ => False) := by
  refine Met.ofW (cc := cX3_changesOf) (maxL := 2) (ret := (some .int)) (by decide) rfl ?_
  intro p e s m args below meth c s₁ B hml hv
  obtain ⟨ha, hP, hK, hN⟩ := hv
  subst ha
  have hx := B.exec
  have hb := B.bytes
  have hr := B.returns
  have hts := atoms_spec (ws := wsX3_changesOf) B.pre
  have hown : s.vm.findClass RX3 = some m.cls := findClass_of_methodNamed B.named
  have hlocks := B.notSynchronized
  have hiX3 : ∀ w ∈ wsX30, w ∈ wsX3_changesOf := fun w h9 => List.mem_cons_of_mem _ (List.mem_append_right _ (h9))
  have k25 := hts (.fieldLink RX3 25 "WovenHistory$Weave" "changes" "[I") (List.mem_of_getElem? (i := 1) rfl)
  have hl := lv_entry ([.ref (h 0), .int x]) (n := 2) (Nat.le_of_ble_eq_true rfl)
  rw [lg_entry_eq]
  generalize (lg_sl ([.ref (h 0), .int x]) ++ List.replicate (2 - (lg_sl ([.ref (h 0), .int x])).length) Slot.unset).toArray = ls at hl ⊢
  have hl : lv_has ls 2 [(0, .ref (h 0)), (1, .int x)] := hl
  refine lv_iload_n hx hb dX3_changesOf_0 rfl (lv_at hl 1 rfl) ?_
  refine lv_if_lt (tgt := 19) hx hb dX3_changesOf_1 (by decide) (fun c1 => ?_) (fun c1 => ?_)
  · skip
    refine lv_iconst (v := nI 0) hx hb dX3_changesOf_19 (by decide) ?_
    exact W.iret (v := nI 0) hx hb hr (fun t ht hW => ⟨nI 0, rfl, ⟨fun j hj e => by first | exact absurd e (hv_n1 (n := 24) (by omega) (by assumption) j hj) | exact absurd e (hv_n2 (n := 24) (by omega) (by assumption) j hj), fun _ => rfl⟩, ht⟩) (fun _ h9 => by cases h9) dX3_changesOf_20
  · skip
    refine lv_iload_n hx hb dX3_changesOf_4 rfl (lv_at hl 1 rfl) ?_
    refine lv_bipush (v := nI 24) hx hb dX3_changesOf_5 (by decide) ?_
    refine lv_icmp_ge (tgt := 19) hx hb dX3_changesOf_7 (by decide) (fun c7 => ?_) (fun c7 => ?_)
    · skip
      refine lv_iconst (v := nI 0) hx hb dX3_changesOf_19 (by decide) ?_
      exact W.iret (v := nI 0) hx hb hr (fun t ht hW => ⟨nI 0, rfl, ⟨fun j hj e => by first | exact absurd e (hv_n1 (n := 24) (by omega) (by assumption) j hj) | exact absurd e (hv_n2 (n := 24) (by omega) (by assumption) j hj), fun _ => rfl⟩, ht⟩) (fun _ h9 => by cases h9) dX3_changesOf_20
    · skip
      obtain ⟨x1, hx1, rfl⟩ := hv_y (n := 24) (by omega) c1 c7
      refine lv_aload_n hx hb dX3_changesOf_10 rfl (lv_at hl 0 rfl) ?_
      refine va_get (D := gD G) (ci := 3) (v := .ref (h 4)) (C := RX3) (T := TX3) (N := 9) hx hb hts hiX3 hown hK hP 0 rfl rfl 4 (by decide) k25 (fun _ h9 => h9) rfl dX3_changesOf_11 ?_
      refine lv_iload_n hx hb dX3_changesOf_14 rfl (lv_at hl 1 rfl) ?_
      refine ialdN (f := w.2 4) (n := 24) (k := x1) hx hb hK hP 4 rfl rfl (by omega) dX3_changesOf_15 ?_
      refine lv_goto (tgt := 20) hx hb dX3_changesOf_16 (by decide) ?_
      exact W.iret (v := (w.2 4) x1) hx hb hr (fun t ht hW => ⟨(w.2 4) x1, rfl, ⟨fun j hj e => congrArg (w.2 4) (nI_inj5 (by omega) (by omega) e), fun e => absurd e (nI_nm1 (by omega))⟩, ht⟩) (fun _ h9 => by cases h9) dX3_changesOf_20
set_option maxHeartbeats 1000000 in
set_option maxRecDepth 100000 in
theorem mt_X3_settleNextF (l : Launch) (G : gG) (h : Nat → Nat) (sz : Nat) (w : oS) (nv : Nat) (hnv : w.1 0 = nI nv) (hnv23 : nv < 24) (hpn : w.2 1 nv = -1 ∨ ∃ t, t < nv ∧ w.2 1 nv = nI t) (hch : chOK w nv) : Met l yX3_settleNext wsX3_settleNext ({ frames := 1, cells := 0, slots := 0, locals := 21 }) (preW G (wv G h w) sz [.ref (h 0)]) (va_Qv (fun (v : oS) => v = stW w nv) (fun v t => PP G (wv G h v) t.heap) (va_A (wv G h w) sz)) 0 0 (va_A (wv G h w) sz) := by
  refine Met.ofW (cc := cX3_settleNext) (maxL := 2) (ret := none) (by decide) rfl ?_
  intro p e s m args below meth c s₁ B hml hv
  obtain ⟨ha, hsz, hP, hK, hN, hD0⟩ := hv
  subst ha
  have hx := B.exec
  have hb := B.bytes
  have hr := B.returns
  have hts := atoms_spec (ws := wsX3_settleNext) B.pre
  have hown : s.vm.findClass RX3 = some m.cls := findClass_of_methodNamed B.named
  have hlocks := B.notSynchronized
  subst hsz
  have hD := hD0.self (sz := s.heap.size)
  generalize hAe : va_A (wv G h w) s.heap.size = A at hD ⊢
  have hA : ∀ q : Nat, s.heap.size ≤ q → A q := fun q h => by rw [← hAe]; exact Or.inr h
  clear hAe hD0
  have hS : va_S A s.heap s.heap [] := va_S.rf
  have hiX3 : ∀ w ∈ wsX30, w ∈ wsX3_settleNext := fun w h9 => List.mem_cons_of_mem _ (List.mem_append_right _ (h9))
  have k15 := hts (.fieldLink RX3 15 "WovenHistory$Weave" "from" "[I") (List.mem_of_getElem? (i := 1) rfl)
  have k9 := hts (.fieldLink RX3 9 "WovenHistory$Weave" "versions" "I") (List.mem_of_getElem? (i := 2) rfl)
  have k19 := hts (.fieldLink RX3 19 "WovenHistory$Weave" "included" "[I") (List.mem_of_getElem? (i := 3) rfl)
  have k25 := hts (.fieldLink RX3 25 "WovenHistory$Weave" "changes" "[I") (List.mem_of_getElem? (i := 4) rfl)
  have k22 := hts (.fieldLink RX3 22 "WovenHistory$Weave" "excluded" "[I") (List.mem_of_getElem? (i := 5) rfl)
  have hl := lv_entry ([.ref (h 0)]) (n := 2) (Nat.le_of_ble_eq_true rfl)
  rw [lg_entry_eq]
  generalize (lg_sl ([.ref (h 0)]) ++ List.replicate (2 - (lg_sl ([.ref (h 0)])).length) Slot.unset).toArray = ls at hl ⊢
  have hl : lv_has ls 2 [(0, .ref (h 0))] := hl
  refine lv_aload_n hx hb dX3_settleNext_0 rfl (lv_at hl 0 rfl) ?_
  refine lv_aload_n hx hb dX3_settleNext_1 rfl (lv_at hl 0 rfl) ?_
  refine va_get (D := gD G) (ci := 3) (v := .ref (h 1)) (C := RX3) (T := TX3) (N := 9) hx hb hts hiX3 hown hK hP 0 rfl rfl 1 (by decide) k15 (fun _ h9 => h9) rfl dX3_settleNext_2 ?_
  refine lv_aload_n hx hb dX3_settleNext_5 rfl (lv_at hl 0 rfl) ?_
  refine va_get (D := gD G) (ci := 3) (v := .int (w.1 0)) (C := RX3) (T := TX3) (N := 9) hx hb hts hiX3 hown hK hP 0 rfl rfl 0 (by decide) k9 (fun _ h9 => h9) rfl dX3_settleNext_6 ?_
  refine topE hnv ?_
  refine ialdN (f := w.2 1) (n := 24) (k := nv) hx hb hK hP 1 rfl rfl (by omega) dX3_settleNext_9 ?_
  refine cRi (w := wv G h w) (As := [.int ((w.2 1) nv)]) (rest := []) ⟨hx, hb, hml, hown, hts⟩ (mt_X3_changesOfF l G h w ((w.2 1) nv)) (cwV 1 hts gX3_settleNext_X3_changesOf rfl rfl rfl ⟨rfl, hd_X3_changesOf⟩ ⟨Nat.le_of_ble_eq_true rfl, Nat.le_of_ble_eq_true rfl⟩) hK hN hP 0 3 rfl rfl rfl hl.1 rfl (Nat.le_of_ble_eq_true rfl) ⟨Nat.zero_le _, Nat.zero_le _⟩ dX3_settleNext_10 (fun r10 hw10 => ?_)
  obtain ⟨ha10, hb10⟩ := hw10
  have hr10 : r10 = chV (w.2 1) (w.2 2) (w.2 3) (w.2 1 nv) := by rcases hpn with q | ⟨t9, ht9, q⟩; exact (hb10 q).trans (by rw [q, chV_m1]; rfl); exact (ha10 t9 (by omega) q).trans (by rw [q]; exact hch t9 ht9)
  refine topE hr10 ?_
  refine lv_aload_n hx hb dX3_settleNext_13 rfl (lv_at hl 0 rfl) ?_
  refine va_get (D := gD G) (ci := 3) (v := .ref (h 2)) (C := RX3) (T := TX3) (N := 9) hx hb hts hiX3 hown hK hP 0 rfl rfl 2 (by decide) k19 (fun _ h9 => h9) rfl dX3_settleNext_14 ?_
  refine lv_aload_n hx hb dX3_settleNext_17 rfl (lv_at hl 0 rfl) ?_
  refine va_get (D := gD G) (ci := 3) (v := .int (w.1 0)) (C := RX3) (T := TX3) (N := 9) hx hb hts hiX3 hown hK hP 0 rfl rfl 0 (by decide) k9 (fun _ h9 => h9) rfl dX3_settleNext_18 ?_
  refine topE hnv ?_
  refine ialdN (f := w.2 2) (n := 24) (k := nv) hx hb hK hP 2 rfl rfl (by omega) dX3_settleNext_21 ?_
  refine lv_ior hx hb dX3_settleNext_22 ?_
  refine lv_istore_n (lv' := [(1, .int ((chV (w.2 1) (w.2 2) (w.2 3) (w.2 1 nv)) ||| ((w.2 2) nv))), (0, .ref (h 0))]) hx hb dX3_settleNext_23 rfl hl (by decide) rfl (fun ls hl => ?_)
  refine lv_aload_n hx hb dX3_settleNext_24 rfl (lv_at hl 1 rfl) ?_
  refine va_get (D := gD G) (ci := 3) (v := .ref (h 4)) (C := RX3) (T := TX3) (N := 9) hx hb hts hiX3 hown hK hP 0 rfl rfl 4 (by decide) k25 (fun _ h9 => h9) rfl dX3_settleNext_25 ?_
  refine lv_aload_n hx hb dX3_settleNext_28 rfl (lv_at hl 1 rfl) ?_
  refine va_get (D := gD G) (ci := 3) (v := .int (w.1 0)) (C := RX3) (T := TX3) (N := 9) hx hb hts hiX3 hown hK hP 0 rfl rfl 0 (by decide) k9 (fun _ h9 => h9) rfl dX3_settleNext_29 ?_
  refine topE hnv ?_
  refine lv_iload_n hx hb dX3_settleNext_32 rfl (lv_at hl 0 rfl) ?_
  refine lv_aload_n hx hb dX3_settleNext_33 rfl (lv_at hl 1 rfl) ?_
  refine va_get (D := gD G) (ci := 3) (v := .ref (h 3)) (C := RX3) (T := TX3) (N := 9) hx hb hts hiX3 hown hK hP 0 rfl rfl 3 (by decide) k22 (fun _ h9 => h9) rfl dX3_settleNext_34 ?_
  refine lv_aload_n hx hb dX3_settleNext_37 rfl (lv_at hl 1 rfl) ?_
  refine va_get (D := gD G) (ci := 3) (v := .int (w.1 0)) (C := RX3) (T := TX3) (N := 9) hx hb hts hiX3 hown hK hP 0 rfl rfl 0 (by decide) k9 (fun _ h9 => h9) rfl dX3_settleNext_38 ?_
  refine topE hnv ?_
  refine ialdN (f := w.2 3) (n := 24) (k := nv) hx hb hK hP 3 rfl rfl (by omega) dX3_settleNext_41 ?_
  refine lv_iconst (v := (-1 : Int32)) hx hb dX3_settleNext_42 (by decide) ?_
  refine lv_ixor hx hb dX3_settleNext_43 ?_
  refine lv_iand hx hb dX3_settleNext_44 ?_
  refine lv_aload_n hx hb dX3_settleNext_45 rfl (lv_at hl 1 rfl) ?_
  refine va_get (D := gD G) (ci := 3) (v := .int (w.1 0)) (C := RX3) (T := TX3) (N := 9) hx hb hts hiX3 hown hK hP 0 rfl rfl 0 (by decide) k9 (fun _ h9 => h9) rfl dX3_settleNext_46 ?_
  refine topE hnv ?_
  refine cSi (As := [.int (nI nv)]) (rest := [.int (((chV (w.2 1) (w.2 2) (w.2 3) (w.2 1 nv)) ||| ((w.2 2) nv)) &&& (((w.2 3) nv) ^^^ (-1 : Int32))), .int (nI nv), .ref (h 4)]) ⟨hx, hb, hml, hown, hts⟩ (mt_X3_onlyF l (nI nv)) (va_cwS 1 hts gX3_settleNext_X3_only rfl rfl rfl hd_X3_only ⟨Nat.le_of_ble_eq_true rfl, Nat.le_of_ble_eq_true rfl⟩) rfl hl.1 rfl (Nat.le_of_ble_eq_true rfl) ⟨Nat.zero_le _, Nat.zero_le _⟩ dX3_settleNext_49 (fun r49 hw49 => ?_)
  obtain rfl := hw49
  refine topE (onl_n (v := nv) (by omega)) ?_
  refine lv_ior hx hb dX3_settleNext_52 ?_
  refine iastN (f := w.2 4) (n := 24) (k := nv) hx hb hK hP hD hS 4 rfl rfl (by omega) dX3_settleNext_53 (fun H locs hP hD hS => ?_)
  have hP : PP G (wv G h (oA w 4 (upd (w.2 4) nv ((((chV (w.2 1) (w.2 2) (w.2 3) (w.2 1 nv)) ||| ((w.2 2) nv)) &&& (((w.2 3) nv) ^^^ (-1 : Int32))) ||| ((1 : Int32) <<< (nI nv &&& 31)))))) H := hP
  have hD : va_D A (wv G h (oA w 4 (upd (w.2 4) nv ((((chV (w.2 1) (w.2 2) (w.2 3) (w.2 1 nv)) ||| ((w.2 2) nv)) &&& (((w.2 3) nv) ^^^ (-1 : Int32))) ||| ((1 : Int32) <<< (nI nv &&& 31)))))) := hD
  exact W.vret hx hb hr (fun t ht hW => ⟨⟨(oA w 4 (upd (w.2 4) nv ((((chV (w.2 1) (w.2 2) (w.2 3) (w.2 1 nv)) ||| ((w.2 2) nv)) &&& (((w.2 3) nv) ^^^ (-1 : Int32))) ||| ((1 : Int32) <<< (nI nv &&& 31))))), rfl, rfl, show PP G (wv G h (oA w 4 (upd (w.2 4) nv ((((chV (w.2 1) (w.2 2) (w.2 3) (w.2 1 nv)) ||| ((w.2 2) nv)) &&& (((w.2 3) nv) ^^^ (-1 : Int32))) ||| ((1 : Int32) <<< (nI nv &&& 31)))))) t.heap by rw [ht]; exact hP⟩, hS.F ht⟩) hS.2.2 dX3_settleNext_54
set_option maxHeartbeats 1000000 in
set_option maxRecDepth 100000 in
theorem mt_X3_beginVersionF (l : Launch) (G : gG) (h : Nat → Nat) (sz : Nat) (w : oS) (nv : Nat) (a : Int32) (b : Int32) (d : Int32) (hnv : w.1 0 = nI nv) (hnv23 : nv < 24) (hpa : a = -1 ∨ ∃ t, t < nv ∧ a = nI t) (hpw : parOK (w.2 1) nv) (hch : chOK w nv) : Met l yX3_beginVersion wsX3_beginVersion ({ frames := 2, cells := 0, slots := 0, locals := 42 }) (preW G (wv G h w) sz [.ref (h 0), .int a, .int b, .int d]) (va_Qv (fun (v : oS) => v = bgW w nv a b d) (fun v t => PP G (wv G h v) t.heap) (va_A (wv G h w) sz)) 0 0 (va_A (wv G h w) sz) := by
  refine Met.ofW (cc := cX3_beginVersion) (maxL := 4) (ret := none) (by decide) rfl ?_
  intro p e s m args below meth c s₁ B hml hv
  obtain ⟨ha, hsz, hP, hK, hN, hD0⟩ := hv
  subst ha
  have hx := B.exec
  have hb := B.bytes
  have hr := B.returns
  have hts := atoms_spec (ws := wsX3_beginVersion) B.pre
  have hown : s.vm.findClass RX3 = some m.cls := findClass_of_methodNamed B.named
  have hlocks := B.notSynchronized
  subst hsz
  have hD := hD0.self (sz := s.heap.size)
  generalize hAe : va_A (wv G h w) s.heap.size = A at hD ⊢
  have hA : ∀ q : Nat, s.heap.size ≤ q → A q := fun q h => by rw [← hAe]; exact Or.inr h
  clear hAe hD0
  have hS : va_S A s.heap s.heap [] := va_S.rf
  have hiX3 : ∀ w ∈ wsX30, w ∈ wsX3_beginVersion := fun w h9 => List.mem_cons_of_mem _ (List.mem_append_right _ (h9))
  have k9 := hts (.fieldLink RX3 9 "WovenHistory$Weave" "versions" "I") (List.mem_of_getElem? (i := 1) rfl)
  have k15 := hts (.fieldLink RX3 15 "WovenHistory$Weave" "from" "[I") (List.mem_of_getElem? (i := 2) rfl)
  have k19 := hts (.fieldLink RX3 19 "WovenHistory$Weave" "included" "[I") (List.mem_of_getElem? (i := 3) rfl)
  have k22 := hts (.fieldLink RX3 22 "WovenHistory$Weave" "excluded" "[I") (List.mem_of_getElem? (i := 4) rfl)
  have hl := lv_entry ([.ref (h 0), .int a, .int b, .int d]) (n := 4) (Nat.le_of_ble_eq_true rfl)
  rw [lg_entry_eq]
  generalize (lg_sl ([.ref (h 0), .int a, .int b, .int d]) ++ List.replicate (4 - (lg_sl ([.ref (h 0), .int a, .int b, .int d])).length) Slot.unset).toArray = ls at hl ⊢
  have hl : lv_has ls 4 [(0, .ref (h 0)), (1, .int a), (2, .int b), (3, .int d)] := hl
  refine lv_aload_n hx hb dX3_beginVersion_0 rfl (lv_at hl 0 rfl) ?_
  refine va_get (D := gD G) (ci := 3) (v := .int (w.1 0)) (C := RX3) (T := TX3) (N := 9) hx hb hts hiX3 hown hK hP 0 rfl rfl 0 (by decide) k9 (fun _ h9 => h9) rfl dX3_beginVersion_1 ?_
  refine topE hnv ?_
  refine lv_bipush (v := nI 24) hx hb dX3_beginVersion_4 (by decide) ?_
  refine lv_icmp_ge (tgt := 43) hx hb dX3_beginVersion_6 (by decide) (fun c6 => ?_) (fun c6 => ?_)
  · skip
    have n6 : 24 ≤ nv := (nI_leI (a := 24) (b := nv) (by omega) (by omega)).mp c6
    omega
  · skip
    have n6 : ¬ (24 ≤ nv) := fun q9 => c6 ((nI_leI (a := 24) (b := nv) (by omega) (by omega)).mpr q9)
    refine lv_aload_n hx hb dX3_beginVersion_9 rfl (lv_at hl 0 rfl) ?_
    refine va_get (D := gD G) (ci := 3) (v := .ref (h 1)) (C := RX3) (T := TX3) (N := 9) hx hb hts hiX3 hown hK hP 0 rfl rfl 1 (by decide) k15 (fun _ h9 => h9) rfl dX3_beginVersion_10 ?_
    refine lv_aload_n hx hb dX3_beginVersion_13 rfl (lv_at hl 0 rfl) ?_
    refine va_get (D := gD G) (ci := 3) (v := .int (w.1 0)) (C := RX3) (T := TX3) (N := 9) hx hb hts hiX3 hown hK hP 0 rfl rfl 0 (by decide) k9 (fun _ h9 => h9) rfl dX3_beginVersion_14 ?_
    refine topE hnv ?_
    refine lv_iload_n hx hb dX3_beginVersion_17 rfl (lv_at hl 1 rfl) ?_
    refine iastN (f := w.2 1) (n := 24) (k := nv) hx hb hK hP hD hS 1 rfl rfl (by omega) dX3_beginVersion_18 (fun H locs hP hD hS => ?_)
    have hP : PP G (wv G h (oA w 1 (upd (w.2 1) nv a))) H := hP
    have hD : va_D A (wv G h (oA w 1 (upd (w.2 1) nv a))) := hD
    refine lv_aload_n hx hb dX3_beginVersion_19 rfl (lv_at hl 0 rfl) ?_
    refine va_get (D := gD G) (ci := 3) (v := .ref (h 2)) (C := RX3) (T := TX3) (N := 9) hx hb hts hiX3 hown hK hP 0 rfl rfl 2 (by decide) k19 (fun _ h9 => h9) rfl dX3_beginVersion_20 ?_
    refine lv_aload_n hx hb dX3_beginVersion_23 rfl (lv_at hl 0 rfl) ?_
    refine va_get (D := gD G) (ci := 3) (v := .int (w.1 0)) (C := RX3) (T := TX3) (N := 9) hx hb hts hiX3 hown hK hP 0 rfl rfl 0 (by decide) k9 (fun _ h9 => h9) rfl dX3_beginVersion_24 ?_
    refine topE hnv ?_
    refine lv_iload_n hx hb dX3_beginVersion_27 rfl (lv_at hl 2 rfl) ?_
    refine iastN (f := w.2 2) (n := 24) (k := nv) hx hb hK hP hD hS 2 rfl rfl (by omega) dX3_beginVersion_28 (fun H locs hP hD hS => ?_)
    have hP : PP G (wv G h (oA (oA w 1 (upd (w.2 1) nv a)) 2 (upd (w.2 2) nv b))) H := hP
    have hD : va_D A (wv G h (oA (oA w 1 (upd (w.2 1) nv a)) 2 (upd (w.2 2) nv b))) := hD
    refine lv_aload_n hx hb dX3_beginVersion_29 rfl (lv_at hl 0 rfl) ?_
    refine va_get (D := gD G) (ci := 3) (v := .ref (h 3)) (C := RX3) (T := TX3) (N := 9) hx hb hts hiX3 hown hK hP 0 rfl rfl 3 (by decide) k22 (fun _ h9 => h9) rfl dX3_beginVersion_30 ?_
    refine lv_aload_n hx hb dX3_beginVersion_33 rfl (lv_at hl 0 rfl) ?_
    refine va_get (D := gD G) (ci := 3) (v := .int (w.1 0)) (C := RX3) (T := TX3) (N := 9) hx hb hts hiX3 hown hK hP 0 rfl rfl 0 (by decide) k9 (fun _ h9 => h9) rfl dX3_beginVersion_34 ?_
    refine topE hnv ?_
    refine lv_iload_n hx hb dX3_beginVersion_37 rfl (lv_at hl 3 rfl) ?_
    refine iastN (f := w.2 3) (n := 24) (k := nv) hx hb hK hP hD hS 3 rfl rfl (by omega) dX3_beginVersion_38 (fun H locs hP hD hS => ?_)
    have hP : PP G (wv G h (oA (oA (oA w 1 (upd (w.2 1) nv a)) 2 (upd (w.2 2) nv b)) 3 (upd (w.2 3) nv d))) H := hP
    have hD : va_D A (wv G h (oA (oA (oA w 1 (upd (w.2 1) nv a)) 2 (upd (w.2 2) nv b)) 3 (upd (w.2 3) nv d))) := hD
    refine lv_aload_n hx hb dX3_beginVersion_39 rfl (lv_at hl 0 rfl) ?_
    refine cXv (As := []) (rest := []) (S := oS) (wa := wv G h (oA (oA (oA w 1 (upd (w.2 1) nv a)) 2 (upd (w.2 2) nv b)) 3 (upd (w.2 3) nv d))) (w1 := fun v => wv G h v) ⟨hx, hb, hml, hown, hts⟩ (mt_X3_settleNextF l G h _ (oA (oA (oA w 1 (upd (w.2 1) nv a)) 2 (upd (w.2 2) nv b)) 3 (upd (w.2 3) nv d)) nv (hnv) (by first | assumption | omega) (by show upd (w.2 1) nv a nv = -1 ∨ ∃ t, t < nv ∧ upd (w.2 1) nv a nv = nI t; rw [pk_us]; exact hpa) (chOK_3 hch hpw (by omega))) (cwV 0 hts gX3_beginVersion_X3_settleNext rfl rfl rfl ⟨rfl, hd_X3_settleNext⟩ ⟨Nat.le_of_ble_eq_true rfl, Nat.le_of_ble_eq_true rfl⟩) hK hN hP hD hS hA (fun _ => rfl) 0 3 rfl rfl rfl hl.1 rfl (Nat.le_of_ble_eq_true rfl) ⟨Nat.zero_le _, Nat.zero_le _⟩ dX3_beginVersion_40 (fun u40 H locs hw40 hP hD hS => ?_)
    obtain rfl := hw40
    have hP : PP G (wv G h (stW (oA (oA (oA w 1 (upd (w.2 1) nv a)) 2 (upd (w.2 2) nv b)) 3 (upd (w.2 3) nv d)) nv)) H := hP
    have hD : va_D A (wv G h (stW (oA (oA (oA w 1 (upd (w.2 1) nv a)) 2 (upd (w.2 2) nv b)) 3 (upd (w.2 3) nv d)) nv)) := hD
    exact W.vret hx hb hr (fun t ht hW => ⟨⟨(stW (oA (oA (oA w 1 (upd (w.2 1) nv a)) 2 (upd (w.2 2) nv b)) 3 (upd (w.2 3) nv d)) nv), rfl, rfl, show PP G (wv G h (stW (oA (oA (oA w 1 (upd (w.2 1) nv a)) 2 (upd (w.2 2) nv b)) 3 (upd (w.2 3) nv d)) nv)) t.heap by rw [ht]; exact hP⟩, hS.F ht⟩) hS.2.2 dX3_beginVersion_43
set_option maxHeartbeats 1000000 in
set_option maxRecDepth 100000 in
theorem mt_X3_finishVersionF (l : Launch) (G : gG) (h : Nat → Nat) (sz : Nat) (w : oS) (nv : Nat) (hnv : w.1 0 = nI nv) (hnv23 : nv < 24) : Met l yX3_finishVersion wsX3_finishVersion ({ frames := 0, cells := 0, slots := 0, locals := 0 }) (preW G (wv G h w) sz [.ref (h 0)]) (va_Qv (fun (v : oS) => v = oI w 0 (nI (nv + 1))) (fun v t => PP G (wv G h v) t.heap) (va_A (wv G h w) sz)) 0 0 (va_A (wv G h w) sz) := by
  refine Met.ofW (cc := cX3_finishVersion) (maxL := 1) (ret := none) (by decide) rfl ?_
  intro p e s m args below meth c s₁ B hml hv
  obtain ⟨ha, hsz, hP, hK, hN, hD0⟩ := hv
  subst ha
  have hx := B.exec
  have hb := B.bytes
  have hr := B.returns
  have hts := atoms_spec (ws := wsX3_finishVersion) B.pre
  have hown : s.vm.findClass RX3 = some m.cls := findClass_of_methodNamed B.named
  have hlocks := B.notSynchronized
  subst hsz
  have hD := hD0.self (sz := s.heap.size)
  generalize hAe : va_A (wv G h w) s.heap.size = A at hD ⊢
  have hA : ∀ q : Nat, s.heap.size ≤ q → A q := fun q h => by rw [← hAe]; exact Or.inr h
  clear hAe hD0
  have hS : va_S A s.heap s.heap [] := va_S.rf
  have hiX3 : ∀ w ∈ wsX30, w ∈ wsX3_finishVersion := fun w h9 => List.mem_cons_of_mem _ (List.mem_append_right _ (h9))
  have k9 := hts (.fieldLink RX3 9 "WovenHistory$Weave" "versions" "I") (List.mem_of_getElem? (i := 1) rfl)
  have hl := lv_entry ([.ref (h 0)]) (n := 1) (Nat.le_of_ble_eq_true rfl)
  rw [lg_entry_eq]
  generalize (lg_sl ([.ref (h 0)]) ++ List.replicate (1 - (lg_sl ([.ref (h 0)])).length) Slot.unset).toArray = ls at hl ⊢
  have hl : lv_has ls 1 [(0, .ref (h 0))] := hl
  refine lv_aload_n hx hb dX3_finishVersion_0 rfl (lv_at hl 0 rfl) ?_
  refine va_get (D := gD G) (ci := 3) (v := .int (w.1 0)) (C := RX3) (T := TX3) (N := 9) hx hb hts hiX3 hown hK hP 0 rfl rfl 0 (by decide) k9 (fun _ h9 => h9) rfl dX3_finishVersion_1 ?_
  refine topE hnv ?_
  refine lv_bipush (v := nI 24) hx hb dX3_finishVersion_4 (by decide) ?_
  refine lv_icmp_ge (tgt := 19) hx hb dX3_finishVersion_6 (by decide) (fun c6 => ?_) (fun c6 => ?_)
  · skip
    have n6 : 24 ≤ nv := (nI_leI (a := 24) (b := nv) (by omega) (by omega)).mp c6
    omega
  · skip
    have n6 : ¬ (24 ≤ nv) := fun q9 => c6 ((nI_leI (a := 24) (b := nv) (by omega) (by omega)).mpr q9)
    refine lv_aload_n hx hb dX3_finishVersion_9 rfl (lv_at hl 0 rfl) ?_
    refine lv_dup hx hb dX3_finishVersion_10 rfl ?_
    refine va_get (D := gD G) (ci := 3) (v := .int (w.1 0)) (C := RX3) (T := TX3) (N := 9) hx hb hts hiX3 hown hK hP 0 rfl rfl 0 (by decide) k9 (fun _ h9 => h9) rfl dX3_finishVersion_11 ?_
    refine topE hnv ?_
    refine lv_iconst (v := nI 1) hx hb dX3_finishVersion_14 (by decide) ?_
    refine lv_iadd hx hb dX3_finishVersion_15 ?_
    refine topE (y := nI (nv + 1)) (nI_add nv 1) ?_
    refine va_put (D := gD G) (ci := 3) (v := .int (nI (nv + 1))) (ty := .int) (C := RX3) (T := TX3) (N := 9) hx hb hts hiX3 tyX3 tyX3_ok nmX3 hown hK hP hD hS 0 rfl rfl 0 (by decide) k9 (fun _ h9 => h9) rfl (tyX3_ok 0 (by decide)) (rfl) (rfl) (Nat.le_of_ble_eq_true rfl) dX3_finishVersion_16 (fun H locs hP hD hS => ?_)
    have hP : PP G (wv G h (oI w 0 (nI (nv + 1)))) H := hP
    have hD : va_D A (wv G h (oI w 0 (nI (nv + 1)))) := hD
    exact W.vret hx hb hr (fun t ht hW => ⟨⟨(oI w 0 (nI (nv + 1))), rfl, rfl, show PP G (wv G h (oI w 0 (nI (nv + 1)))) t.heap by rw [ht]; exact hP⟩, hS.F ht⟩) hS.2.2 dX3_finishVersion_19
set_option maxHeartbeats 1000000 in
set_option maxRecDepth 100000 in
theorem mt_X4_isSignF (l : Launch) (x : Int32) : Met l yX4_isSign wsX4_isSign ({ frames := 0, cells := 0, slots := 0, locals := 0 }) (preS [.int x]) (vp_Si (fun r : Int32 => (r = 1 ∧ sgn x = true) ∨ (r = 0 ∧ ¬ sgn x = true))) 0 0 (fun _ => False) := by
  refine Met.ofW (cc := cX4_isSign) (maxL := 1) (ret := (some .boolean)) (by decide) rfl ?_
  intro p e s m args below meth c s₁ B hml hv
  obtain ⟨ha, -⟩ := hv
  subst ha
  have hx := B.exec
  have hb := B.bytes
  have hr := B.returns
  have hts := atoms_spec (ws := wsX4_isSign) B.pre
  have hown : s.vm.findClass RX4 = some m.cls := findClass_of_methodNamed B.named
  have hlocks := B.notSynchronized
  have hl := lv_entry ([.int x]) (n := 1) (Nat.le_of_ble_eq_true rfl)
  rw [lg_entry_eq]
  generalize (lg_sl ([.int x]) ++ List.replicate (1 - (lg_sl ([.int x])).length) Slot.unset).toArray = ls at hl ⊢
  have hl : lv_has ls 1 [(0, .int x)] := hl
  refine lv_iload_n hx hb dX4_isSign_0 rfl (lv_at hl 0 rfl) ?_
  refine lv_bipush (v := nI 65) hx hb dX4_isSign_1 (by decide) ?_
  refine lv_icmp_lt (tgt := 16) hx hb dX4_isSign_3 (by decide) (fun c3 => ?_) (fun c3 => ?_)
  · skip
    refine lv_iconst (v := nI 0) hx hb dX4_isSign_16 (by decide) ?_
    exact W.zret (v := nI 0) hx hb hr (by decide) (fun t ht hW => ⟨nI 0, rfl, by first | exact Or.inl ⟨rfl, sgn_i.mpr ⟨by assumption, by assumption⟩⟩ | exact Or.inr ⟨rfl, fun q => (sgn_i.mp q).1 (by assumption)⟩ | exact Or.inr ⟨rfl, fun q => (sgn_i.mp q).2 (by assumption)⟩, ht⟩) (fun _ h9 => by cases h9) dX4_isSign_17
  · skip
    refine lv_iload_n hx hb dX4_isSign_6 rfl (lv_at hl 0 rfl) ?_
    refine lv_bipush (v := nI 90) hx hb dX4_isSign_7 (by decide) ?_
    refine lv_icmp_gt (tgt := 16) hx hb dX4_isSign_9 (by decide) (fun c9 => ?_) (fun c9 => ?_)
    · skip
      refine lv_iconst (v := nI 0) hx hb dX4_isSign_16 (by decide) ?_
      exact W.zret (v := nI 0) hx hb hr (by decide) (fun t ht hW => ⟨nI 0, rfl, by first | exact Or.inl ⟨rfl, sgn_i.mpr ⟨by assumption, by assumption⟩⟩ | exact Or.inr ⟨rfl, fun q => (sgn_i.mp q).1 (by assumption)⟩ | exact Or.inr ⟨rfl, fun q => (sgn_i.mp q).2 (by assumption)⟩, ht⟩) (fun _ h9 => by cases h9) dX4_isSign_17
    · skip
      refine lv_iconst (v := nI 1) hx hb dX4_isSign_12 (by decide) ?_
      refine lv_goto (tgt := 17) hx hb dX4_isSign_13 (by decide) ?_
      exact W.zret (v := nI 1) hx hb hr (by decide) (fun t ht hW => ⟨nI 1, rfl, by first | exact Or.inl ⟨rfl, sgn_i.mpr ⟨by assumption, by assumption⟩⟩ | exact Or.inr ⟨rfl, fun q => (sgn_i.mp q).1 (by assumption)⟩ | exact Or.inr ⟨rfl, fun q => (sgn_i.mp q).2 (by assumption)⟩, ht⟩) (fun _ h9 => by cases h9) dX4_isSign_17
set_option maxHeartbeats 1000000 in
set_option maxRecDepth 100000 in
theorem mt_X3_moveLinesF (l : Launch) (G : gG) (h : Nat → Nat) (sz : Nat) (w : oS) (nl : Nat) (a : Nat) (b : Nat) (hnl : w.1 5 = nI nl) (hnl120 : nl ≤ 120) (ha1 : a ≤ nl) (hb1 : b + (nl - a) ≤ 120) : Met l yX3_moveLines wsX3_moveLines ({ frames := 1, cells := 0, slots := 0, locals := 26 }) (preW G (wv G h w) sz [.ref (h 0), .int (nI a), .int (nI b)]) (va_Qv (fun (v : oS) => v = oA (oA (oA w 6 (va_cpy (w.2 6) (w.2 6) a b (nl - a))) 7 (va_cpy (w.2 7) (w.2 7) a b (nl - a))) 8 (va_cpy (w.2 8) (w.2 8) a b (nl - a))) (fun v t => PP G (wv G h v) t.heap) (va_A (wv G h w) sz)) 0 0 (va_A (wv G h w) sz) := by
  refine Met.ofW (cc := cX3_moveLines) (maxL := 4) (ret := none) (by decide) rfl ?_
  intro p e s m args below meth c s₁ B hml hv
  obtain ⟨ha, hsz, hP, hK, hN, hD0⟩ := hv
  subst ha
  have hx := B.exec
  have hb := B.bytes
  have hr := B.returns
  have hts := atoms_spec (ws := wsX3_moveLines) B.pre
  have hown : s.vm.findClass RX3 = some m.cls := findClass_of_methodNamed B.named
  have hlocks := B.notSynchronized
  subst hsz
  have hD := hD0.self (sz := s.heap.size)
  generalize hAe : va_A (wv G h w) s.heap.size = A at hD ⊢
  have hA : ∀ q : Nat, s.heap.size ≤ q → A q := fun q h => by rw [← hAe]; exact Or.inr h
  clear hAe hD0
  have hS : va_S A s.heap s.heap [] := va_S.rf
  have hiX3 : ∀ w ∈ wsX30, w ∈ wsX3_moveLines := fun w h9 => List.mem_cons_of_mem _ (List.mem_append_right _ (h9))
  have k28 := hts (.fieldLink RX3 28 "WovenHistory$Weave" "lines" "I") (List.mem_of_getElem? (i := 1) rfl)
  have k31 := hts (.fieldLink RX3 31 "WovenHistory$Weave" "sign" "[I") (List.mem_of_getElem? (i := 2) rfl)
  have k34 := hts (.fieldLink RX3 34 "WovenHistory$Weave" "brought" "[I") (List.mem_of_getElem? (i := 7) rfl)
  have k37 := hts (.fieldLink RX3 37 "WovenHistory$Weave" "took" "[I") (List.mem_of_getElem? (i := 8) rfl)
  have hl := lv_entry ([.ref (h 0), .int (nI a), .int (nI b)]) (n := 4) (Nat.le_of_ble_eq_true rfl)
  rw [lg_entry_eq]
  generalize (lg_sl ([.ref (h 0), .int (nI a), .int (nI b)]) ++ List.replicate (4 - (lg_sl ([.ref (h 0), .int (nI a), .int (nI b)])).length) Slot.unset).toArray = ls at hl ⊢
  have hl : lv_has ls 4 [(0, .ref (h 0)), (1, .int (nI a)), (2, .int (nI b))] := hl
  refine lv_aload_n hx hb dX3_moveLines_0 rfl (lv_at hl 0 rfl) ?_
  refine va_get (D := gD G) (ci := 3) (v := .int (w.1 5)) (C := RX3) (T := TX3) (N := 9) hx hb hts hiX3 hown hK hP 0 rfl rfl 5 (by decide) k28 (fun _ h9 => h9) rfl dX3_moveLines_1 ?_
  refine topE hnl ?_
  refine lv_iload_n hx hb dX3_moveLines_4 rfl (lv_at hl 1 rfl) ?_
  refine lv_isub hx hb dX3_moveLines_5 ?_
  refine topE (y := nI (nl - a)) (pk_sub (by omega)) ?_
  refine lv_istore_n (lv' := [(3, .int (nI (nl - a))), (0, .ref (h 0)), (1, .int (nI a)), (2, .int (nI b))]) hx hb dX3_moveLines_6 rfl hl (by decide) rfl (fun ls hl => ?_)
  refine lv_aload_n hx hb dX3_moveLines_7 rfl (lv_at hl 1 rfl) ?_
  refine va_get (D := gD G) (ci := 3) (v := .ref (h 6)) (C := RX3) (T := TX3) (N := 9) hx hb hts hiX3 hown hK hP 0 rfl rfl 6 (by decide) k31 (fun _ h9 => h9) rfl dX3_moveLines_8 ?_
  refine lv_iload_n hx hb dX3_moveLines_11 rfl (lv_at hl 2 rfl) ?_
  refine lv_aload_n hx hb dX3_moveLines_12 rfl (lv_at hl 1 rfl) ?_
  refine va_get (D := gD G) (ci := 3) (v := .ref (h 6)) (C := RX3) (T := TX3) (N := 9) hx hb hts hiX3 hown hK hP 0 rfl rfl 6 (by decide) k31 (fun _ h9 => h9) rfl dX3_moveLines_13 ?_
  refine lv_iload_n hx hb dX3_moveLines_16 rfl (lv_at hl 3 rfl) ?_
  refine lv_iload_n hx hb dX3_moveLines_17 rfl (lv_at hl 0 rfl) ?_
  refine cpyN (f := w.2 6) (g := w.2 6) (n0 := 120) (n1 := 120) (sp := a) (dp := b) (n := nl - a) hx hb (hml.trans hl.1.symm) hown (hts (.methodLink RX3 44 arraycopyName) (List.mem_of_getElem? (i := 3) rfl)) (hts (.native arraycopyName) (List.mem_of_getElem? (i := 4) rfl)) (hts (.static arraycopyName) (List.mem_of_getElem? (i := 5) rfl)) (hts (.initialized "java/lang/System") (List.mem_of_getElem? (i := 6) rfl)) hK hP hD hS 5 5 rfl rfl rfl rfl (by omega) (by omega) (Nat.le_of_ble_eq_true rfl) (Nat.le_of_ble_eq_true rfl) dX3_moveLines_18 (fun H locs hP hD hS => ?_)
  have hP : PP G (wv G h (oA w 6 (va_cpy (w.2 6) (w.2 6) a b (nl - a)))) H := hP
  have hD : va_D A (wv G h (oA w 6 (va_cpy (w.2 6) (w.2 6) a b (nl - a)))) := hD
  refine lv_aload_n hx hb dX3_moveLines_21 rfl (lv_at hl 1 rfl) ?_
  refine va_get (D := gD G) (ci := 3) (v := .ref (h 7)) (C := RX3) (T := TX3) (N := 9) hx hb hts hiX3 hown hK hP 0 rfl rfl 7 (by decide) k34 (fun _ h9 => h9) rfl dX3_moveLines_22 ?_
  refine lv_iload_n hx hb dX3_moveLines_25 rfl (lv_at hl 2 rfl) ?_
  refine lv_aload_n hx hb dX3_moveLines_26 rfl (lv_at hl 1 rfl) ?_
  refine va_get (D := gD G) (ci := 3) (v := .ref (h 7)) (C := RX3) (T := TX3) (N := 9) hx hb hts hiX3 hown hK hP 0 rfl rfl 7 (by decide) k34 (fun _ h9 => h9) rfl dX3_moveLines_27 ?_
  refine lv_iload_n hx hb dX3_moveLines_30 rfl (lv_at hl 3 rfl) ?_
  refine lv_iload_n hx hb dX3_moveLines_31 rfl (lv_at hl 0 rfl) ?_
  refine cpyN (f := w.2 7) (g := w.2 7) (n0 := 120) (n1 := 120) (sp := a) (dp := b) (n := nl - a) hx hb (hml.trans hl.1.symm) hown (hts (.methodLink RX3 44 arraycopyName) (List.mem_of_getElem? (i := 3) rfl)) (hts (.native arraycopyName) (List.mem_of_getElem? (i := 4) rfl)) (hts (.static arraycopyName) (List.mem_of_getElem? (i := 5) rfl)) (hts (.initialized "java/lang/System") (List.mem_of_getElem? (i := 6) rfl)) hK hP hD hS 6 6 rfl rfl rfl rfl (by omega) (by omega) (Nat.le_of_ble_eq_true rfl) (Nat.le_of_ble_eq_true rfl) dX3_moveLines_32 (fun H locs hP hD hS => ?_)
  have hP : PP G (wv G h (oA (oA w 6 (va_cpy (w.2 6) (w.2 6) a b (nl - a))) 7 (va_cpy (w.2 7) (w.2 7) a b (nl - a)))) H := hP
  have hD : va_D A (wv G h (oA (oA w 6 (va_cpy (w.2 6) (w.2 6) a b (nl - a))) 7 (va_cpy (w.2 7) (w.2 7) a b (nl - a)))) := hD
  refine lv_aload_n hx hb dX3_moveLines_35 rfl (lv_at hl 1 rfl) ?_
  refine va_get (D := gD G) (ci := 3) (v := .ref (h 8)) (C := RX3) (T := TX3) (N := 9) hx hb hts hiX3 hown hK hP 0 rfl rfl 8 (by decide) k37 (fun _ h9 => h9) rfl dX3_moveLines_36 ?_
  refine lv_iload_n hx hb dX3_moveLines_39 rfl (lv_at hl 2 rfl) ?_
  refine lv_aload_n hx hb dX3_moveLines_40 rfl (lv_at hl 1 rfl) ?_
  refine va_get (D := gD G) (ci := 3) (v := .ref (h 8)) (C := RX3) (T := TX3) (N := 9) hx hb hts hiX3 hown hK hP 0 rfl rfl 8 (by decide) k37 (fun _ h9 => h9) rfl dX3_moveLines_41 ?_
  refine lv_iload_n hx hb dX3_moveLines_44 rfl (lv_at hl 3 rfl) ?_
  refine lv_iload_n hx hb dX3_moveLines_45 rfl (lv_at hl 0 rfl) ?_
  refine cpyN (f := w.2 8) (g := w.2 8) (n0 := 120) (n1 := 120) (sp := a) (dp := b) (n := nl - a) hx hb (hml.trans hl.1.symm) hown (hts (.methodLink RX3 44 arraycopyName) (List.mem_of_getElem? (i := 3) rfl)) (hts (.native arraycopyName) (List.mem_of_getElem? (i := 4) rfl)) (hts (.static arraycopyName) (List.mem_of_getElem? (i := 5) rfl)) (hts (.initialized "java/lang/System") (List.mem_of_getElem? (i := 6) rfl)) hK hP hD hS 7 7 rfl rfl rfl rfl (by omega) (by omega) (Nat.le_of_ble_eq_true rfl) (Nat.le_of_ble_eq_true rfl) dX3_moveLines_46 (fun H locs hP hD hS => ?_)
  have hP : PP G (wv G h (oA (oA (oA w 6 (va_cpy (w.2 6) (w.2 6) a b (nl - a))) 7 (va_cpy (w.2 7) (w.2 7) a b (nl - a))) 8 (va_cpy (w.2 8) (w.2 8) a b (nl - a)))) H := hP
  have hD : va_D A (wv G h (oA (oA (oA w 6 (va_cpy (w.2 6) (w.2 6) a b (nl - a))) 7 (va_cpy (w.2 7) (w.2 7) a b (nl - a))) 8 (va_cpy (w.2 8) (w.2 8) a b (nl - a)))) := hD
  exact W.vret hx hb hr (fun t ht hW => ⟨⟨(oA (oA (oA w 6 (va_cpy (w.2 6) (w.2 6) a b (nl - a))) 7 (va_cpy (w.2 7) (w.2 7) a b (nl - a))) 8 (va_cpy (w.2 8) (w.2 8) a b (nl - a))), rfl, rfl, show PP G (wv G h (oA (oA (oA w 6 (va_cpy (w.2 6) (w.2 6) a b (nl - a))) 7 (va_cpy (w.2 7) (w.2 7) a b (nl - a))) 8 (va_cpy (w.2 8) (w.2 8) a b (nl - a)))) t.heap by rw [ht]; exact hP⟩, hS.F ht⟩) hS.2.2 dX3_moveLines_49
set_option maxHeartbeats 1000000 in
set_option maxRecDepth 100000 in
theorem mt_X3_insertLineF (l : Launch) (G : gG) (h : Nat → Nat) (sz : Nat) (w : oS) (nl : Nat) (a : Nat) (lett : Int32) (by1 : Int32) (tk1 : Int32) (hnl : w.1 5 = nI nl) (hnl119 : nl < 120) (ha : a ≤ nl) : Met l yX3_insertLine wsX3_insertLine ({ frames := 2, cells := 0, slots := 0, locals := 49 }) (preW G (wv G h w) sz [.ref (h 0), .int (nI a), .int lett, .int by1, .int tk1]) (va_Qv (fun (v : oS) => v = insW w a nl lett by1 tk1) (fun v t => PP G (wv G h v) t.heap) (va_A (wv G h w) sz)) 0 0 (va_A (wv G h w) sz) := by
  refine Met.ofW (cc := cX3_insertLine) (maxL := 5) (ret := none) (by decide) rfl ?_
  intro p e s m args below meth c s₁ B hml hv
  obtain ⟨ha, hsz, hP, hK, hN, hD0⟩ := hv
  subst ha
  have hx := B.exec
  have hb := B.bytes
  have hr := B.returns
  have hts := atoms_spec (ws := wsX3_insertLine) B.pre
  have hown : s.vm.findClass RX3 = some m.cls := findClass_of_methodNamed B.named
  have hlocks := B.notSynchronized
  subst hsz
  have hD := hD0.self (sz := s.heap.size)
  generalize hAe : va_A (wv G h w) s.heap.size = A at hD ⊢
  have hA : ∀ q : Nat, s.heap.size ≤ q → A q := fun q h => by rw [← hAe]; exact Or.inr h
  clear hAe hD0
  have hS : va_S A s.heap s.heap [] := va_S.rf
  have hiX3 : ∀ w ∈ wsX30, w ∈ wsX3_insertLine := fun w h9 => List.mem_cons_of_mem _ (List.mem_append_right _ (h9))
  have k28 := hts (.fieldLink RX3 28 "WovenHistory$Weave" "lines" "I") (List.mem_of_getElem? (i := 1) rfl)
  have k31 := hts (.fieldLink RX3 31 "WovenHistory$Weave" "sign" "[I") (List.mem_of_getElem? (i := 2) rfl)
  have k34 := hts (.fieldLink RX3 34 "WovenHistory$Weave" "brought" "[I") (List.mem_of_getElem? (i := 3) rfl)
  have k37 := hts (.fieldLink RX3 37 "WovenHistory$Weave" "took" "[I") (List.mem_of_getElem? (i := 4) rfl)
  have hl := lv_entry ([.ref (h 0), .int (nI a), .int lett, .int by1, .int tk1]) (n := 5) (Nat.le_of_ble_eq_true rfl)
  rw [lg_entry_eq]
  generalize (lg_sl ([.ref (h 0), .int (nI a), .int lett, .int by1, .int tk1]) ++ List.replicate (5 - (lg_sl ([.ref (h 0), .int (nI a), .int lett, .int by1, .int tk1])).length) Slot.unset).toArray = ls at hl ⊢
  have hl : lv_has ls 5 [(0, .ref (h 0)), (1, .int (nI a)), (2, .int lett), (3, .int by1), (4, .int tk1)] := hl
  refine lv_iload_n hx hb dX3_insertLine_0 rfl (lv_at hl 1 rfl) ?_
  refine lv_if_lt (tgt := 21) hx hb dX3_insertLine_1 (by decide) (fun c9 => absurd c9 (nI_pos (by omega))) (fun _ => ?_)
  refine lv_iload_n hx hb dX3_insertLine_4 rfl (lv_at hl 1 rfl) ?_
  refine lv_aload_n hx hb dX3_insertLine_5 rfl (lv_at hl 0 rfl) ?_
  refine va_get (D := gD G) (ci := 3) (v := .int (w.1 5)) (C := RX3) (T := TX3) (N := 9) hx hb hts hiX3 hown hK hP 0 rfl rfl 5 (by decide) k28 (fun _ h9 => h9) rfl dX3_insertLine_6 ?_
  refine topE hnl ?_
  refine lv_icmp_gt (tgt := 21) hx hb dX3_insertLine_9 (by decide) (fun c9 => ?_) (fun c9 => ?_)
  · skip
    have n9 : nl < a := (nI_ltI (a := nl) (b := a) (by omega) (by omega)).mp c9
    omega
  · skip
    have n9 : ¬ (nl < a) := fun q9 => c9 ((nI_ltI (a := nl) (b := a) (by omega) (by omega)).mpr q9)
    refine lv_aload_n hx hb dX3_insertLine_12 rfl (lv_at hl 0 rfl) ?_
    refine va_get (D := gD G) (ci := 3) (v := .int (w.1 5)) (C := RX3) (T := TX3) (N := 9) hx hb hts hiX3 hown hK hP 0 rfl rfl 5 (by decide) k28 (fun _ h9 => h9) rfl dX3_insertLine_13 ?_
    refine topE hnl ?_
    refine lv_bipush (v := nI 120) hx hb dX3_insertLine_16 (by decide) ?_
    refine lv_icmp_lt (tgt := 22) hx hb dX3_insertLine_18 (by decide) (fun c18 => ?_) (fun c18 => ?_)
    · skip
      have n18 : nl < 120 := (nI_ltI (a := nl) (b := 120) (by omega) (by omega)).mp c18
      refine lv_aload_n hx hb dX3_insertLine_22 rfl (lv_at hl 0 rfl) ?_
      refine lv_iload_n hx hb dX3_insertLine_23 rfl (lv_at hl 1 rfl) ?_
      refine lv_iload_n hx hb dX3_insertLine_24 rfl (lv_at hl 1 rfl) ?_
      refine lv_iconst (v := nI 1) hx hb dX3_insertLine_25 (by decide) ?_
      refine lv_iadd hx hb dX3_insertLine_26 ?_
      refine topE (y := nI (a + 1)) (nI_add a 1) ?_
      refine cXv (As := [.int (nI a), .int (nI (a + 1))]) (rest := []) (S := oS) (wa := wv G h w) (w1 := fun v => wv G h v) ⟨hx, hb, hml, hown, hts⟩ (mt_X3_moveLinesF l G h _ w nl a (a + 1) (hnl) (by first | assumption | omega) (by first | assumption | omega) (by first | assumption | omega)) (cwV 2 hts gX3_insertLine_X3_moveLines rfl rfl rfl ⟨rfl, hd_X3_moveLines⟩ ⟨Nat.le_of_ble_eq_true rfl, Nat.le_of_ble_eq_true rfl⟩) hK hN hP hD hS hA (fun _ => rfl) 0 3 rfl rfl rfl hl.1 rfl (Nat.le_of_ble_eq_true rfl) ⟨Nat.zero_le _, Nat.zero_le _⟩ dX3_insertLine_27 (fun u27 H locs hw27 hP hD hS => ?_)
      obtain rfl := hw27
      have hP : PP G (wv G h (oA (oA (oA w 6 (va_cpy (w.2 6) (w.2 6) a (a + 1) (nl - a))) 7 (va_cpy (w.2 7) (w.2 7) a (a + 1) (nl - a))) 8 (va_cpy (w.2 8) (w.2 8) a (a + 1) (nl - a)))) H := hP
      have hD : va_D A (wv G h (oA (oA (oA w 6 (va_cpy (w.2 6) (w.2 6) a (a + 1) (nl - a))) 7 (va_cpy (w.2 7) (w.2 7) a (a + 1) (nl - a))) 8 (va_cpy (w.2 8) (w.2 8) a (a + 1) (nl - a)))) := hD
      refine lv_aload_n hx hb dX3_insertLine_30 rfl (lv_at hl 0 rfl) ?_
      refine va_get (D := gD G) (ci := 3) (v := .ref (h 6)) (C := RX3) (T := TX3) (N := 9) hx hb hts hiX3 hown hK hP 0 rfl rfl 6 (by decide) k31 (fun _ h9 => h9) rfl dX3_insertLine_31 ?_
      refine lv_iload_n hx hb dX3_insertLine_34 rfl (lv_at hl 1 rfl) ?_
      refine lv_iload_n hx hb dX3_insertLine_35 rfl (lv_at hl 2 rfl) ?_
      refine iastN (f := va_cpy (w.2 6) (w.2 6) a (a + 1) (nl - a)) (n := 120) (k := a) hx hb hK hP hD hS 5 rfl rfl (by omega) dX3_insertLine_36 (fun H locs hP hD hS => ?_)
      have hP : PP G (wv G h (oA (oA (oA (oA w 6 (va_cpy (w.2 6) (w.2 6) a (a + 1) (nl - a))) 7 (va_cpy (w.2 7) (w.2 7) a (a + 1) (nl - a))) 8 (va_cpy (w.2 8) (w.2 8) a (a + 1) (nl - a))) 6 (upd (va_cpy (w.2 6) (w.2 6) a (a + 1) (nl - a)) a lett))) H := hP
      have hD : va_D A (wv G h (oA (oA (oA (oA w 6 (va_cpy (w.2 6) (w.2 6) a (a + 1) (nl - a))) 7 (va_cpy (w.2 7) (w.2 7) a (a + 1) (nl - a))) 8 (va_cpy (w.2 8) (w.2 8) a (a + 1) (nl - a))) 6 (upd (va_cpy (w.2 6) (w.2 6) a (a + 1) (nl - a)) a lett))) := hD
      refine lv_aload_n hx hb dX3_insertLine_37 rfl (lv_at hl 0 rfl) ?_
      refine va_get (D := gD G) (ci := 3) (v := .ref (h 7)) (C := RX3) (T := TX3) (N := 9) hx hb hts hiX3 hown hK hP 0 rfl rfl 7 (by decide) k34 (fun _ h9 => h9) rfl dX3_insertLine_38 ?_
      refine lv_iload_n hx hb dX3_insertLine_41 rfl (lv_at hl 1 rfl) ?_
      refine lv_iload_n hx hb dX3_insertLine_42 rfl (lv_at hl 3 rfl) ?_
      refine iastN (f := va_cpy (w.2 7) (w.2 7) a (a + 1) (nl - a)) (n := 120) (k := a) hx hb hK hP hD hS 6 rfl rfl (by omega) dX3_insertLine_43 (fun H locs hP hD hS => ?_)
      have hP : PP G (wv G h (oA (oA (oA (oA (oA w 6 (va_cpy (w.2 6) (w.2 6) a (a + 1) (nl - a))) 7 (va_cpy (w.2 7) (w.2 7) a (a + 1) (nl - a))) 8 (va_cpy (w.2 8) (w.2 8) a (a + 1) (nl - a))) 6 (upd (va_cpy (w.2 6) (w.2 6) a (a + 1) (nl - a)) a lett)) 7 (upd (va_cpy (w.2 7) (w.2 7) a (a + 1) (nl - a)) a by1))) H := hP
      have hD : va_D A (wv G h (oA (oA (oA (oA (oA w 6 (va_cpy (w.2 6) (w.2 6) a (a + 1) (nl - a))) 7 (va_cpy (w.2 7) (w.2 7) a (a + 1) (nl - a))) 8 (va_cpy (w.2 8) (w.2 8) a (a + 1) (nl - a))) 6 (upd (va_cpy (w.2 6) (w.2 6) a (a + 1) (nl - a)) a lett)) 7 (upd (va_cpy (w.2 7) (w.2 7) a (a + 1) (nl - a)) a by1))) := hD
      refine lv_aload_n hx hb dX3_insertLine_44 rfl (lv_at hl 0 rfl) ?_
      refine va_get (D := gD G) (ci := 3) (v := .ref (h 8)) (C := RX3) (T := TX3) (N := 9) hx hb hts hiX3 hown hK hP 0 rfl rfl 8 (by decide) k37 (fun _ h9 => h9) rfl dX3_insertLine_45 ?_
      refine lv_iload_n hx hb dX3_insertLine_48 rfl (lv_at hl 1 rfl) ?_
      refine lv_iload hx hb dX3_insertLine_49 (lv_at hl 4 rfl) ?_
      refine iastN (f := va_cpy (w.2 8) (w.2 8) a (a + 1) (nl - a)) (n := 120) (k := a) hx hb hK hP hD hS 7 rfl rfl (by omega) dX3_insertLine_51 (fun H locs hP hD hS => ?_)
      have hP : PP G (wv G h (oA (oA (oA (oA (oA (oA w 6 (va_cpy (w.2 6) (w.2 6) a (a + 1) (nl - a))) 7 (va_cpy (w.2 7) (w.2 7) a (a + 1) (nl - a))) 8 (va_cpy (w.2 8) (w.2 8) a (a + 1) (nl - a))) 6 (upd (va_cpy (w.2 6) (w.2 6) a (a + 1) (nl - a)) a lett)) 7 (upd (va_cpy (w.2 7) (w.2 7) a (a + 1) (nl - a)) a by1)) 8 (upd (va_cpy (w.2 8) (w.2 8) a (a + 1) (nl - a)) a tk1))) H := hP
      have hD : va_D A (wv G h (oA (oA (oA (oA (oA (oA w 6 (va_cpy (w.2 6) (w.2 6) a (a + 1) (nl - a))) 7 (va_cpy (w.2 7) (w.2 7) a (a + 1) (nl - a))) 8 (va_cpy (w.2 8) (w.2 8) a (a + 1) (nl - a))) 6 (upd (va_cpy (w.2 6) (w.2 6) a (a + 1) (nl - a)) a lett)) 7 (upd (va_cpy (w.2 7) (w.2 7) a (a + 1) (nl - a)) a by1)) 8 (upd (va_cpy (w.2 8) (w.2 8) a (a + 1) (nl - a)) a tk1))) := hD
      refine lv_aload_n hx hb dX3_insertLine_52 rfl (lv_at hl 0 rfl) ?_
      refine lv_dup hx hb dX3_insertLine_53 rfl ?_
      refine va_get (D := gD G) (ci := 3) (v := .int (w.1 5)) (C := RX3) (T := TX3) (N := 9) hx hb hts hiX3 hown hK hP 0 rfl rfl 5 (by decide) k28 (fun _ h9 => h9) rfl dX3_insertLine_54 ?_
      refine topE hnl ?_
      refine lv_iconst (v := nI 1) hx hb dX3_insertLine_57 (by decide) ?_
      refine lv_iadd hx hb dX3_insertLine_58 ?_
      refine topE (y := nI (nl + 1)) (nI_add nl 1) ?_
      refine va_put (D := gD G) (ci := 3) (v := .int (nI (nl + 1))) (ty := .int) (C := RX3) (T := TX3) (N := 9) hx hb hts hiX3 tyX3 tyX3_ok nmX3 hown hK hP hD hS 0 rfl rfl 5 (by decide) k28 (fun _ h9 => h9) rfl (tyX3_ok 5 (by decide)) (rfl) (rfl) (Nat.le_of_ble_eq_true rfl) dX3_insertLine_59 (fun H locs hP hD hS => ?_)
      have hP : PP G (wv G h (oI (oA (oA (oA (oA (oA (oA w 6 (va_cpy (w.2 6) (w.2 6) a (a + 1) (nl - a))) 7 (va_cpy (w.2 7) (w.2 7) a (a + 1) (nl - a))) 8 (va_cpy (w.2 8) (w.2 8) a (a + 1) (nl - a))) 6 (upd (va_cpy (w.2 6) (w.2 6) a (a + 1) (nl - a)) a lett)) 7 (upd (va_cpy (w.2 7) (w.2 7) a (a + 1) (nl - a)) a by1)) 8 (upd (va_cpy (w.2 8) (w.2 8) a (a + 1) (nl - a)) a tk1)) 5 (nI (nl + 1)))) H := hP
      have hD : va_D A (wv G h (oI (oA (oA (oA (oA (oA (oA w 6 (va_cpy (w.2 6) (w.2 6) a (a + 1) (nl - a))) 7 (va_cpy (w.2 7) (w.2 7) a (a + 1) (nl - a))) 8 (va_cpy (w.2 8) (w.2 8) a (a + 1) (nl - a))) 6 (upd (va_cpy (w.2 6) (w.2 6) a (a + 1) (nl - a)) a lett)) 7 (upd (va_cpy (w.2 7) (w.2 7) a (a + 1) (nl - a)) a by1)) 8 (upd (va_cpy (w.2 8) (w.2 8) a (a + 1) (nl - a)) a tk1)) 5 (nI (nl + 1)))) := hD
      exact W.vret hx hb hr (fun t ht hW => ⟨⟨(oI (oA (oA (oA (oA (oA (oA w 6 (va_cpy (w.2 6) (w.2 6) a (a + 1) (nl - a))) 7 (va_cpy (w.2 7) (w.2 7) a (a + 1) (nl - a))) 8 (va_cpy (w.2 8) (w.2 8) a (a + 1) (nl - a))) 6 (upd (va_cpy (w.2 6) (w.2 6) a (a + 1) (nl - a)) a lett)) 7 (upd (va_cpy (w.2 7) (w.2 7) a (a + 1) (nl - a)) a by1)) 8 (upd (va_cpy (w.2 8) (w.2 8) a (a + 1) (nl - a)) a tk1)) 5 (nI (nl + 1))), rfl, congrArg (fun q => oI q 5 (nI (nl + 1))) (w678 _ _ _ _ _ _ _), show PP G (wv G h (oI (oA (oA (oA (oA (oA (oA w 6 (va_cpy (w.2 6) (w.2 6) a (a + 1) (nl - a))) 7 (va_cpy (w.2 7) (w.2 7) a (a + 1) (nl - a))) 8 (va_cpy (w.2 8) (w.2 8) a (a + 1) (nl - a))) 6 (upd (va_cpy (w.2 6) (w.2 6) a (a + 1) (nl - a)) a lett)) 7 (upd (va_cpy (w.2 7) (w.2 7) a (a + 1) (nl - a)) a by1)) 8 (upd (va_cpy (w.2 8) (w.2 8) a (a + 1) (nl - a)) a tk1)) 5 (nI (nl + 1)))) t.heap by rw [ht]; exact hP⟩, hS.F ht⟩) hS.2.2 dX3_insertLine_62
    · skip
      have n18 : ¬ (nl < 120) := fun q9 => c18 ((nI_ltI (a := nl) (b := 120) (by omega) (by omega)).mpr q9)
      omega
