/-- what reading changes: a number's, those behind one sign, all -/
abbrev rdN : oS → oS → Prop := rel [11, 12, 13, 14] []
abbrev rdO : oS → oS → Prop := rel [11, 12, 13, 14] [17, 18]
abbrev rdW : oS → oS → Prop := rel [11, 12, 13, 14, 15, 19, 23] [16, 17, 18, 20, 21, 22, 24, 25]
def RS (u : oS) (nt a rv rl dp : Nat) : Prop := u.1 10 = nI nt ∧ u.1 12 = nI a ∧ u.1 15 = nI rv ∧ u.1 19 = nI rl ∧ u.1 23 = nI dp ∧ nt ≤ 240 ∧ a ≤ nt ∧ rv ≤ 24 ∧ rl ≤ 120 ∧ dp ≤ a ∧ parOK (u.2 16) rv
theorem MIx_rd {u w : oS} {nv nl nt nh : Nat} (h : MIx u nv nl nt nh) (hW : rdW u w) : MIx (oI w 10 (nI 0)) nv nl 0 nh := by
  obtain ⟨h1, h2, h3, h4, h5, h6, h7, h8, h9, h10, h11, h12, h13⟩ := h
  have e1 := hW.2 1 (by decide)
  have e33 := hW.2 33 (by decide)
  have e35 := hW.2 35 (by decide)
  have e36 := hW.2 36 (by decide)
  have e37 := hW.2 37 (by decide)
  refine ⟨(hW.1 0 (by decide)).trans h1, (hW.1 4 (by decide)).trans h2, rfl, (hW.1 27 (by decide)).trans h4, h5, h6, by omega, h8, ?_, ?_, ?_, ?_, ?_⟩
  · show w.1 8 = 0 ∨ w.1 8 = 1
    rw [hW.1 8 (by decide)]; exact h9
  · show w.1 8 = 1 → nv < 24 ∧ parOK (w.2 1) (nv + 1)
    rw [hW.1 8 (by decide), e1]; exact h10
  · show parOK (w.2 1) nv
    rw [e1]; exact h11
  · show ∀ j, j < 4 → ∃ z, z ≤ 40 ∧ w.2 33 j = nI z
    rw [e33]; exact h12
  · show ∀ i, i < 2 → w.2 35 i = -1 ∨ ∃ n q, n ≤ 24 ∧ q ≤ 120 ∧ w.2 35 i = nI n ∧ w.2 36 i = nI q ∧ parOK (fun j => w.2 37 (432 * i + j)) n
    rw [e35, e36, e37]; exact h13
theorem parOK_cpr {f g : Nat → Int32} {n : Nat} (h : parOK f n) : parOK (cpr f g n) n := by
  intro i hi
  have e : cpr f g n i = f i := if_pos hi
  rw [e]
  exact h i hi
theorem kv2 (f : Nat → Int32) (x : Int32) : ∀ i, i < 2 → upd (upd f 0 x) 1 x i = x := by
  intro i hi
  by_cases e : i = 1
  · subst e; exact pk_us
  · rw [pk_un e, show i = 0 by omega, pk_us]
theorem MIx_woven {u w v : oS} {nv nl nt nh rv rl : Nat} (h : MIx u nv nl nt nh) (hW : rdW u w) (hv : rv ≤ 24) (hl : rl ≤ 120) (hp : parOK (w.2 16) rv) (e0 : v.1 0 = nI rv) (e4 : v.1 4 = nI rl) (e10 : v.1 10 = nI 0) (e27 : v.1 27 = w.1 27) (e8 : v.1 8 = nI 0) (e1 : v.2 1 = cpr (w.2 16) (w.2 1) rv) (e33 : v.2 33 = w.2 33) (e35 : v.2 35 = upd (upd (w.2 35) 0 (-1)) 1 (-1)) : MIx v rv rl 0 nh := by
  obtain ⟨h1, h2, h3, h4, h5, h6, h7, h8, h9, h10, h11, h12, h13⟩ := h
  refine ⟨e0, e4, e10, e27.trans ((hW.1 27 (by decide)).trans h4), hv, hl, by omega, h8, Or.inl e8, fun e => absurd (e8.symm.trans e) (show ¬ nI 0 = 1 by decide), ?_, ?_, ?_⟩
  · rw [e1]; exact parOK_cpr hp
  · rw [e33, hW.2 33 (by decide)]; exact h12
  · intro i hi
    left
    rw [e35]
    exact kv2 _ _ i hi

/-! reading: what a text tells, one tale for class and reference -/
section READ
variable {p : Int32 → Bool} {t : Nat → Int32} {n : Nat}
def rnF (p : Int32 → Bool) (t : Nat → Int32) (n : Nat) : Nat → Nat → Nat
  | 0, a => a
  | f + 1, a => if a < n ∧ p (t a) = true then rnF p t n f (a + 1) else a
def rn (p : Int32 → Bool) (t : Nat → Int32) (n a : Nat) : Nat := rnF p t n (n - a) a
theorem rn_s {a : Nat} (h : a < n) (e : p (t a) = true) : rn p t n (a + 1) = rn p t n a := by
  unfold rn
  rw [show n - a = (n - (a + 1)) + 1 by omega, rnF, if_pos ⟨h, e⟩]
theorem rn_e {a : Nat} (h : ¬ (a < n ∧ p (t a) = true)) : rn p t n a = a := by
  unfold rn
  cases n - a with
  | zero => rfl
  | succ k => rw [rnF, if_neg h]
theorem rnF_ge : ∀ (f a : Nat), a ≤ rnF p t n f a
  | 0, a => Nat.le_refl a
  | f + 1, a => by
    rw [rnF]
    split
    · exact Nat.le_trans (Nat.le_succ a) (rnF_ge f (a + 1))
    · exact Nat.le_refl a
theorem rn_ge (a : Nat) : a ≤ rn p t n a := rnF_ge _ _
theorem rnF_le : ∀ (f a : Nat), a ≤ n → rnF p t n f a ≤ n
  | 0, a, h => h
  | f + 1, a, h => by
    rw [rnF]
    split
    · rename_i q
      exact rnF_le f (a + 1) q.1
    · exact h
theorem rn_le {a : Nat} (h : a ≤ n) : rn p t n a ≤ n := rnF_le _ _ h
theorem rnF_not : ∀ (f a : Nat), n - a ≤ f → ¬ (rnF p t n f a < n ∧ p (t (rnF p t n f a)) = true)
  | 0, a, h => fun q => absurd (show a < n from q.1) (by omega)
  | f + 1, a, h => by
    rw [rnF]
    split
    · exact rnF_not f (a + 1) (by omega)
    · assumption
theorem rn_not (a : Nat) : ¬ (rn p t n a < n ∧ p (t (rn p t n a)) = true) := rnF_not _ _ (Nat.le_refl _)
theorem rn_i (a : Nat) : rn p t n (rn p t n a) = rn p t n a := rn_e (rn_not a)
theorem rn_eq {a b : Nat} (h : rn p t n b = rn p t n a) (e : ¬ (b < n ∧ p (t b) = true)) : rn p t n a = b := by rw [← h, rn_e e]
end READ
def isB (x : Int32) : Bool := decide (x = nI 32)
def dig (x : Int32) : Bool := decide (48 ≤ x.toInt ∧ x.toInt ≤ 57)
def sgn (x : Int32) : Bool := decide (65 ≤ x.toInt ∧ x.toInt ≤ 90)
abbrev sk (t : Nat → Int32) (n a : Nat) : Nat := rn isB t n a
abbrev dg (t : Nat → Int32) (n a : Nat) : Nat := rn dig t n a
theorem sk_i (t : Nat → Int32) (n a : Nat) : sk t n (sk t n a) = sk t n a := rn_i a
def hd (t : Nat → Int32) (n b : Nat) : Int32 := if b < n then t b else -1
theorem hd_in {t : Nat → Int32} {n b : Nat} (h : b < n) : hd t n b = t b := if_pos h
theorem hd_out {t : Nat → Int32} {n b : Nat} (h : ¬ b < n) : hd t n b = -1 := if_neg h
theorem hd_lt {t : Nat → Int32} {n b : Nat} (h : ¬ hd t n b = -1) : b < n := by
  rcases Nat.lt_or_ge b n with q | q
  · exact q
  · exact absurd (hd_out (by omega)) h
theorem hd_c {t : Nat → Int32} {n b : Nat} {x : Int32} (h : hd t n b = x) (hx : ¬ x = -1) : b < n := hd_lt (by rw [h]; exact hx)
theorem isB_t {x : Int32} (h : x = nI 32) : isB x = true := decide_eq_true h
theorem isB_f {x : Int32} (h : ¬ x = nI 32) : ¬ isB x = true := by unfold isB; rw [decide_eq_false h]; decide
theorem dig_t {x : Int32} {d : Nat} (h1 : 48 ≤ d) (h2 : d ≤ 57) (e : x = nI d) : dig x = true := by
  subst e
  unfold dig
  rw [nI_T (by omega)]
  exact decide_eq_true ⟨by omega, by omega⟩
theorem dig_64 {x : Int32} : dig x = true ↔ ((48 : Int64) ≤ x.toInt64 ∧ x.toInt64 ≤ 57) := by
  unfold dig
  rw [decide_eq_true_iff, Int64.le_iff_toInt_le, Int64.le_iff_toInt_le, Int32.toInt_toInt64]
  exact Iff.rfl
theorem sgn_64 {x : Int32} : sgn x = true ↔ ((65 : Int64) ≤ x.toInt64 ∧ x.toInt64 ≤ 90) := by
  unfold sgn
  rw [decide_eq_true_iff, Int64.le_iff_toInt_le, Int64.le_iff_toInt_le, Int32.toInt_toInt64]
  exact Iff.rfl
theorem dig_hd {t : Nat → Int32} {n b : Nat} (h : dig (hd t n b) = true) : b < n := hd_lt (fun e => by rw [e] at h; exact absurd h (by decide))
theorem dig_n {x : Int32} (h : ¬ ((48 : Int64) ≤ x.toInt64 ∧ x.toInt64 ≤ 57)) : ¬ dig x = true := fun q => h (dig_64.mp q)
theorem sgn_n {x : Int32} (h : ¬ ((65 : Int64) ≤ x.toInt64 ∧ x.toInt64 ≤ 90)) : ¬ sgn x = true := fun q => h (sgn_64.mp q)
/-- the value of a figure; a number's start, end, value, fault -/
def dv (x : Int32) : Nat := (x.toInt - 48).toNat
theorem dv_n {x : Int32} {d : Nat} (h : d ≤ 100000) (e : x = nI d) : dv x = d - 48 := by
  subst e
  unfold dv
  rw [nI_T h]
  omega
def nE (t : Nat → Int32) (n a : Nat) : Nat := dg t n (sk t n a)
def val2 (t : Nat → Int32) (b e : Nat) : Nat := if e = b then 0 else if e = b + 1 then dv (t b) else 10 * dv (t b) + dv (t (b + 1))
def nV (t : Nat → Int32) (n a : Nat) : Nat := val2 t (sk t n a) (nE t n a)
def nFl (t : Nat → Int32) (n a : Nat) : Nat := if nE t n a = sk t n a then 1 else if sk t n a + 2 < nE t n a then 2 else 0
def vF (t : Nat → Int32) (n rv a : Nat) : Nat := if nFl t n a = 0 ∧ rv ≤ nV t n a then 2 else nFl t n a
theorem val2_0 (t : Nat → Int32) (b : Nat) : val2 t b b = 0 := if_pos rfl
theorem val2_s {t : Nat → Int32} {b e : Nat} (h1 : b ≤ e) (h2 : e ≤ b + 1) : val2 t b (e + 1) = 10 * val2 t b e + dv (t e) := by
  unfold val2
  rw [if_neg (show ¬ e + 1 = b by omega)]
  by_cases h : e = b
  · subst h
    rw [if_pos rfl, if_pos rfl]
    omega
  · have h3 : e = b + 1 := by omega
    subst h3
    rw [if_neg (by omega), if_neg (by omega), if_pos rfl]
theorem dv_le {x : Int32} (h : dig x = true) : dv x ≤ 9 := by
  have := of_decide_eq_true h
  unfold dv
  omega
theorem nE_ge (t : Nat → Int32) (n a : Nat) : a ≤ nE t n a := Nat.le_trans (rn_ge a) (rn_ge _)
theorem nE_sk (t : Nat → Int32) (n a : Nat) : sk t n a ≤ nE t n a := rn_ge _
theorem nE_le {t : Nat → Int32} {n a : Nat} (h : a ≤ n) : nE t n a ≤ n := rn_le (rn_le h)
theorem nF_1 {t : Nat → Int32} {n a : Nat} (h : ¬ dig (hd t n (sk t n a)) = true) : nFl t n a = 1 ∧ nE t n a = sk t n a := by
  have e : nE t n a = sk t n a := rn_e (fun q => h (by rw [hd_in q.1]; exact q.2))
  exact ⟨if_pos e, e⟩
theorem nF_2 {t : Nat → Int32} {n a : Nat} (h : sk t n a + 2 < nE t n a) : nFl t n a = 2 := by
  unfold nFl
  rw [if_neg (by omega), if_pos h]
theorem nF_0 {t : Nat → Int32} {n a : Nat} (h : ¬ sk t n a + 2 < nE t n a) (h1 : ¬ nE t n a = sk t n a) : nFl t n a = 0 := by
  unfold nFl
  rw [if_neg h1, if_neg h]
theorem nF_cases (t : Nat → Int32) (n a : Nat) : nFl t n a = 0 ∨ nFl t n a = 1 ∨ nFl t n a = 2 := by
  unfold nFl
  split
  · exact Or.inr (Or.inl rfl)
  · split
    · exact Or.inr (Or.inr rfl)
    · exact Or.inl rfl
theorem vF_2 {t : Nat → Int32} {n rv a : Nat} (h : nFl t n a = 0) (h2 : rv ≤ nV t n a) : vF t n rv a = 2 := if_pos ⟨h, h2⟩
theorem vF_0 {t : Nat → Int32} {n rv a : Nat} (h : nFl t n a = 0) (h2 : ¬ rv ≤ nV t n a) : vF t n rv a = 0 := by unfold vF; rw [if_neg (fun q => h2 q.2), h]
theorem vF_f {t : Nat → Int32} {n rv a : Nat} (h : ¬ nFl t n a = 0) : vF t n rv a = nFl t n a := if_neg (fun q => h q.1)
theorem vF_cases (t : Nat → Int32) (n rv a : Nat) : vF t n rv a = 0 ∨ vF t n rv a = 1 ∨ vF t n rv a = 2 := by
  unfold vF
  split
  · exact Or.inr (Or.inr rfl)
  · exact nF_cases t n a
theorem vF_ok {t : Nat → Int32} {n rv a : Nat} (h : vF t n rv a = 0) : nFl t n a = 0 ∧ nV t n a < rv := by
  unfold vF at h
  split at h
  · exact absurd h (by decide)
  · rename_i q
    refine ⟨h, ?_⟩
    rcases Nat.lt_or_ge (nV t n a) rv with g | g
    · exact g
    · exact absurd ⟨h, g⟩ q
/-- a version is in a set -/
def hasb (se : Int32) (k : Nat) : Bool := decide ((se >>> (nI k &&& 31)) &&& 1 = 1)
theorem hasb_t {se : Int32} {k : Nat} (h : (se >>> (nI k &&& 31)) &&& 1 = 1) : hasb se k = true := decide_eq_true h
theorem hasb_f {se : Int32} {k : Nat} (h : ¬ (se >>> (nI k &&& 31)) &&& 1 = 1) : ¬ hasb se k = true := by unfold hasb; rw [decide_eq_false h]; decide
abbrev b1 (k : Nat) : Int32 := (1 : Int32) <<< (nI k &&& 31)
/-- those behind one sign: fault, its place, where it ends, the set -/
def othF (t : Nat → Int32) (n : Nat) (sg : Int32) (rv : Nat) (to : Int32) : Nat → Nat → Int32 → Nat × Nat × Nat × Int32
  | 0, a, x => (0, 0, a, x)
  | f + 1, a, x => if hd t n (sk t n a) = sg then
      if vF t n rv (sk t n a + 1) = 0 then
        if hasb (to ||| x) (nV t n (sk t n a + 1)) = true then (4, sk t n (sk t n a + 1), nE t n (sk t n a + 1), x)
        else othF t n sg rv to f (nE t n (sk t n a + 1)) (x ||| b1 (nV t n (sk t n a + 1)))
      else (vF t n rv (sk t n a + 1), sk t n (sk t n a + 1), nE t n (sk t n a + 1), x)
    else (0, 0, sk t n a, x)
def oth (t : Nat → Int32) (n : Nat) (sg : Int32) (rv : Nat) (to : Int32) (a : Nat) (x : Int32) : Nat × Nat × Nat × Int32 := othF t n sg rv to (n + 1 - a) a x
theorem othF_st {t : Nat → Int32} {n : Nat} {sg : Int32} {rv : Nat} {to : Int32} (hs : ¬ sg = -1) : ∀ (f g a : Nat) (x : Int32), a ≤ n → n - a < f → n - a < g → othF t n sg rv to f a x = othF t n sg rv to g a x := by
  intro f
  induction f with
  | zero => intro g a x _ h; exact absurd h (Nat.not_lt_zero _)
  | succ f ih =>
    intro g a x ha hf hg
    obtain ⟨g, rfl⟩ : ∃ k, g = k + 1 := ⟨g - 1, by omega⟩
    rw [othF, othF]
    by_cases h1 : hd t n (sk t n a) = sg
    · rw [if_pos h1, if_pos h1]
      have hb := hd_c h1 hs
      have h2 : a ≤ sk t n a := rn_ge a
      have h3 := nE_ge t n (sk t n a + 1)
      have h4 := nE_le (t := t) (n := n) (a := sk t n a + 1) (by omega)
      rw [ih g (nE t n (sk t n a + 1)) _ h4 (by omega) (by omega)]
    · rw [if_neg h1, if_neg h1]
theorem oth_e {t : Nat → Int32} {n : Nat} {sg : Int32} {rv : Nat} {to : Int32} {a : Nat} {x : Int32} (h1 : ¬ hd t n (sk t n a) = sg) (ha : a ≤ n) : oth t n sg rv to a x = (0, 0, sk t n a, x) := by
  unfold oth
  rw [show n + 1 - a = (n - a) + 1 by omega, othF, if_neg h1]
theorem oth_f {t : Nat → Int32} {n : Nat} {sg : Int32} {rv : Nat} {to : Int32} {a : Nat} {x : Int32} (h1 : hd t n (sk t n a) = sg) (h2 : ¬ vF t n rv (sk t n a + 1) = 0) (ha : a ≤ n) : oth t n sg rv to a x = (vF t n rv (sk t n a + 1), sk t n (sk t n a + 1), nE t n (sk t n a + 1), x) := by
  unfold oth
  rw [show n + 1 - a = (n - a) + 1 by omega, othF, if_pos h1, if_neg h2]
theorem oth_4 {t : Nat → Int32} {n : Nat} {sg : Int32} {rv : Nat} {to : Int32} {a : Nat} {x : Int32} (h1 : hd t n (sk t n a) = sg) (h2 : vF t n rv (sk t n a + 1) = 0) (h3 : hasb (to ||| x) (nV t n (sk t n a + 1)) = true) (ha : a ≤ n) : oth t n sg rv to a x = (4, sk t n (sk t n a + 1), nE t n (sk t n a + 1), x) := by
  unfold oth
  rw [show n + 1 - a = (n - a) + 1 by omega, othF, if_pos h1, if_pos h2, if_pos h3]
theorem oth_s {t : Nat → Int32} {n : Nat} {sg : Int32} {rv : Nat} {to : Int32} {a : Nat} {x : Int32} (hs : ¬ sg = -1) (h1 : hd t n (sk t n a) = sg) (h2 : vF t n rv (sk t n a + 1) = 0) (h3 : ¬ hasb (to ||| x) (nV t n (sk t n a + 1)) = true) (ha : a ≤ n) : oth t n sg rv to (nE t n (sk t n a + 1)) (x ||| b1 (nV t n (sk t n a + 1))) = oth t n sg rv to a x := by
  have hb := hd_c h1 hs
  have h5 : a ≤ sk t n a := rn_ge a
  have h6 := nE_ge t n (sk t n a + 1)
  have h7 := nE_le (t := t) (n := n) (a := sk t n a + 1) (by omega)
  unfold oth
  rw [show n + 1 - a = (n - a) + 1 by omega, othF, if_pos h1, if_pos h2, if_neg h3]
  exact othF_st hs _ _ _ _ h7 (by omega) (by omega)
/-- a state of reading: numbers 12 place, 15 versions, 19 lines, 23 depth; rows 16 17 18 of versions, 20 21 22 of lines, 24 25 of blocks -/
abbrev pS : Type := (Nat → Nat) × (Nat → Nat → Int32)
def nup (f : Nat → Nat) (k x : Nat) : Nat → Nat := fun j => if j = k then x else f j
def pN (s : pS) (k x : Nat) : pS := (nup s.1 k x, s.2)
def pR (s : pS) (k : Nat) (g : Nat → Int32) : pS := (s.1, va_up s.2 k g)
def s0 : pS := (fun _ => 0, fun _ _ => 0)
/-- who brings where one stands; who takes; whether a block may stand there -/
def brA (bk bi : Nat → Int32) : Nat → Int32
  | 0 => -1
  | d + 1 => if bi d = 0 then brA bk bi d else bk d
def tkA (bk bi : Nat → Int32) : Nat → Int32
  | 0 => 0
  | d + 1 => tkA bk bi d ||| (if bi d = 0 then (1 : Int32) <<< (bk d &&& 31) else 0)
def mayB (bk bi : Nat → Int32) (v : Nat) (z : Bool) : Nat → Bool
  | 0 => true
  | d + 1 => mayB bk bi v z d && (if bi d = 0 then z || decide (¬ nI v = bk d) else decide (¬ nI v ≤ bk d))
/-- a version, a block, a line, an item: fault and place, the state behind it -/
abbrev iR : Type := Nat × Nat × pS
def vOK (t : Nat → Int32) (n : Nat) (s : pS) (v e : Nat) (x y : Int32) : pS := pN (pN (pR (pR (pR s 16 (upd (s.2 16) (s.1 15) (if v = 99 then -1 else nI v))) 17 (upd (s.2 17) (s.1 15) x)) 18 (upd (s.2 18) (s.1 15) y)) 12 (sk t n e + 1)) 15 (s.1 15 + 1)
def vSc (t : Nat → Int32) (n : Nat) (s : pS) (a1 : Nat) (x : Int32) (o : Nat × Nat × Nat × Int32) : iR := if ¬ o.1 = 0 then (o.1, o.2.1, s) else if ¬ hd t n (sk t n o.2.2.1) = nI 59 then (1, sk t n o.2.2.1, s) else (0, 0, vOK t n s (nV t n a1) o.2.2.1 x o.2.2.2)
def vSb (t : Nat → Int32) (n : Nat) (s : pS) (a1 : Nat) (o : Nat × Nat × Nat × Int32) : iR := if ¬ o.1 = 0 then (o.1, o.2.1, s) else vSc t n s a1 o.2.2.2 (oth t n (nI 45) (s.1 15) o.2.2.2 o.2.2.1 (nI 0))
def vSa (t : Nat → Int32) (n : Nat) (s : pS) (a1 : Nat) : iR := if s.1 15 = 24 then (3, s.1 12, s) else if ¬ nFl t n a1 = 0 then (nFl t n a1, sk t n a1, s) else if ¬ nV t n a1 = 99 ∧ s.1 15 ≤ nV t n a1 then (2, sk t n a1, s) else vSb t n s a1 (oth t n (nI 43) (s.1 15) (nI 0) (nE t n a1) (nI 0))
def vST (t : Nat → Int32) (n : Nat) (s : pS) : iR := vSa t n s (s.1 12 + 1)
def bOK (t : Nat → Int32) (n : Nat) (z : Bool) (s : pS) (a1 : Nat) : pS := pN (pN (pR (pR s 24 (upd (s.2 24) (s.1 23) (nI (nV t n a1)))) 25 (upd (s.2 25) (s.1 23) (if z = true then 1 else 0))) 12 (sk t n (nE t n a1) + 1)) 23 (s.1 23 + 1)
def bSa (t : Nat → Int32) (n : Nat) (z : Bool) (s : pS) (a1 : Nat) : iR := if ¬ vF t n (s.1 15) a1 = 0 then (vF t n (s.1 15) a1, sk t n a1, s) else if ¬ mayB (s.2 24) (s.2 25) (nV t n a1) z (s.1 23) = true then (4, sk t n a1, s) else if ¬ hd t n (sk t n (nE t n a1)) = nI 40 then (1, sk t n (nE t n a1), s) else (0, 0, bOK t n z s a1)
def bST (t : Nat → Int32) (n : Nat) (z : Bool) (s : pS) : iR := bSa t n z s (s.1 12 + 1)
def lOK (c : Int32) (s : pS) (by1 tk1 : Int32) : pS := pN (pN (pR (pR (pR s 20 (upd (s.2 20) (s.1 19) c)) 21 (upd (s.2 21) (s.1 19) by1)) 22 (upd (s.2 22) (s.1 19) tk1)) 19 (s.1 19 + 1)) 12 (s.1 12 + 1)
def lSa (c : Int32) (s : pS) (by1 tk1 : Int32) : iR := if by1 < 0 then (1, s.1 12, s) else if s.1 19 = 120 then (3, s.1 12, s) else if ¬ tk1 &&& (((2 : Int32) <<< (by1 &&& 31)) - 1) = 0 then (4, s.1 12, s) else (0, 0, lOK c s by1 tk1)
def lST (c : Int32) (s : pS) : iR := lSa c s (brA (s.2 24) (s.2 25) (s.1 23)) (tkA (s.2 24) (s.2 25) (s.1 23))
def cOK (s : pS) : pS := pN (pN s 23 (s.1 23 - 1)) 12 (s.1 12 + 1)
def iSa (t : Nat → Int32) (n : Nat) (z : Bool) (s : pS) (c : Int32) : iR := if c = nI 118 ∧ z = true then vST t n s else if c = nI 105 then bST t n true s else if c = nI 100 then bST t n false s else if sgn c = true then lST c s else if c = nI 41 ∧ 0 < s.1 23 then (0, 0, cOK s) else (1, s.1 12, s)
def iST (t : Nat → Int32) (n : Nat) (z : Bool) (s : pS) : iR := iSa t n z s (hd t n (s.1 12))
section STEPS
variable {t : Nat → Int32} {n : Nat} {s : pS} {z : Bool} {c : Int32}
theorem vST_3 (h : s.1 15 = 24) : vST t n s = (3, s.1 12, s) := by unfold vST vSa; rw [if_pos h]
theorem vST_n (h : ¬ s.1 15 = 24) (h1 : ¬ nFl t n (s.1 12 + 1) = 0) : vST t n s = (nFl t n (s.1 12 + 1), sk t n (s.1 12 + 1), s) := by unfold vST vSa; rw [if_neg h, if_pos h1]
theorem vST_p (h : ¬ s.1 15 = 24) (h1 : nFl t n (s.1 12 + 1) = 0) (h2 : ¬ nV t n (s.1 12 + 1) = 99) (h3 : s.1 15 ≤ nV t n (s.1 12 + 1)) : vST t n s = (2, sk t n (s.1 12 + 1), s) := by unfold vST vSa; rw [if_neg h, if_neg (not_not_intro h1), if_pos ⟨h2, h3⟩]
theorem vST_a (h : ¬ s.1 15 = 24) (h1 : nFl t n (s.1 12 + 1) = 0) (h2 : nV t n (s.1 12 + 1) = 99 ∨ nV t n (s.1 12 + 1) < s.1 15) : vST t n s = vSb t n s (s.1 12 + 1) (oth t n (nI 43) (s.1 15) (nI 0) (nE t n (s.1 12 + 1)) (nI 0)) := by unfold vST vSa; rw [if_neg h, if_neg (not_not_intro h1), if_neg (by omega)]
theorem vSb_f {a1 f p e : Nat} {x : Int32} (hf : ¬ f = 0) : vSb t n s a1 (f, p, e, x) = (f, p, s) := if_pos hf
theorem vSb_0 {a1 p e : Nat} {x : Int32} : vSb t n s a1 (0, p, e, x) = vSc t n s a1 x (oth t n (nI 45) (s.1 15) x e (nI 0)) := if_neg (not_not_intro rfl)
theorem vSc_f {a1 f p e : Nat} {x y : Int32} (hf : ¬ f = 0) : vSc t n s a1 x (f, p, e, y) = (f, p, s) := if_pos hf
theorem vSc_1 {a1 p e : Nat} {x y : Int32} (h : ¬ hd t n (sk t n e) = nI 59) : vSc t n s a1 x (0, p, e, y) = (1, sk t n e, s) := by unfold vSc; rw [if_neg (not_not_intro rfl), if_pos h]
theorem vSc_0 {a1 p e : Nat} {x y : Int32} (h : hd t n (sk t n e) = nI 59) : vSc t n s a1 x (0, p, e, y) = (0, 0, vOK t n s (nV t n a1) e x y) := by unfold vSc; rw [if_neg (not_not_intro rfl), if_neg (not_not_intro h)]
theorem bST_n (h : ¬ vF t n (s.1 15) (s.1 12 + 1) = 0) : bST t n z s = (vF t n (s.1 15) (s.1 12 + 1), sk t n (s.1 12 + 1), s) := by unfold bST bSa; rw [if_pos h]
theorem bST_4 (h : vF t n (s.1 15) (s.1 12 + 1) = 0) (h1 : ¬ mayB (s.2 24) (s.2 25) (nV t n (s.1 12 + 1)) z (s.1 23) = true) : bST t n z s = (4, sk t n (s.1 12 + 1), s) := by unfold bST bSa; rw [if_neg (not_not_intro h), if_pos h1]
theorem bST_1 (h : vF t n (s.1 15) (s.1 12 + 1) = 0) (h1 : mayB (s.2 24) (s.2 25) (nV t n (s.1 12 + 1)) z (s.1 23) = true) (h2 : ¬ hd t n (sk t n (nE t n (s.1 12 + 1))) = nI 40) : bST t n z s = (1, sk t n (nE t n (s.1 12 + 1)), s) := by unfold bST bSa; rw [if_neg (not_not_intro h), if_neg (not_not_intro h1), if_pos h2]
theorem bST_0 (h : vF t n (s.1 15) (s.1 12 + 1) = 0) (h1 : mayB (s.2 24) (s.2 25) (nV t n (s.1 12 + 1)) z (s.1 23) = true) (h2 : hd t n (sk t n (nE t n (s.1 12 + 1))) = nI 40) : bST t n z s = (0, 0, bOK t n z s (s.1 12 + 1)) := by unfold bST bSa; rw [if_neg (not_not_intro h), if_neg (not_not_intro h1), if_neg (not_not_intro h2)]
theorem lSa_1 {x y : Int32} (h : x < 0) : lSa c s x y = (1, s.1 12, s) := if_pos h
theorem lSa_3 {x y : Int32} (h : ¬ x < 0) (h1 : s.1 19 = 120) : lSa c s x y = (3, s.1 12, s) := by unfold lSa; rw [if_neg h, if_pos h1]
theorem lSa_4 {x y : Int32} (h : ¬ x < 0) (h1 : ¬ s.1 19 = 120) (h2 : ¬ y &&& (((2 : Int32) <<< (x &&& 31)) - 1) = 0) : lSa c s x y = (4, s.1 12, s) := by unfold lSa; rw [if_neg h, if_neg h1, if_pos h2]
theorem lSa_0 {x y : Int32} (h : ¬ x < 0) (h1 : ¬ s.1 19 = 120) (h2 : y &&& (((2 : Int32) <<< (x &&& 31)) - 1) = 0) : lSa c s x y = (0, 0, lOK c s x y) := by unfold lSa; rw [if_neg h, if_neg h1, if_neg (not_not_intro h2)]
theorem iST_v (h : hd t n (s.1 12) = nI 118) (hz : z = true) : iST t n z s = vST t n s := by unfold iST iSa; rw [if_pos ⟨h, hz⟩]
theorem iST_i (h : hd t n (s.1 12) = nI 105) : iST t n z s = bST t n true s := by unfold iST iSa; rw [if_neg (fun q => absurd (h.symm.trans q.1) (by decide)), if_pos h]
theorem iST_d (h : hd t n (s.1 12) = nI 100) : iST t n z s = bST t n false s := by unfold iST iSa; rw [if_neg (fun q => absurd (h.symm.trans q.1) (by decide)), if_neg (fun q => absurd (h.symm.trans q) (by decide)), if_pos h]
theorem iST_l (h1 : ¬ (hd t n (s.1 12) = nI 118 ∧ z = true)) (h2 : ¬ hd t n (s.1 12) = nI 105) (h3 : ¬ hd t n (s.1 12) = nI 100) (h : sgn (hd t n (s.1 12)) = true) : iST t n z s = lST (hd t n (s.1 12)) s := by unfold iST iSa; rw [if_neg h1, if_neg h2, if_neg h3, if_pos h]
theorem iST_c (h : hd t n (s.1 12) = nI 41) (hd0 : 0 < s.1 23) : iST t n z s = (0, 0, cOK s) := by
  unfold iST iSa
  rw [if_neg (fun q => absurd (h.symm.trans q.1) (by decide)), if_neg (fun q => absurd (h.symm.trans q) (by decide)), if_neg (fun q => absurd (h.symm.trans q) (by decide)), if_neg (by rw [h]; decide), if_pos ⟨h, hd0⟩]
theorem iST_1 (h1 : ¬ (hd t n (s.1 12) = nI 118 ∧ z = true)) (h2 : ¬ hd t n (s.1 12) = nI 105) (h3 : ¬ hd t n (s.1 12) = nI 100) (h4 : ¬ sgn (hd t n (s.1 12)) = true) (h5 : ¬ (hd t n (s.1 12) = nI 41 ∧ 0 < s.1 23)) : iST t n z s = (1, s.1 12, s) := by unfold iST iSa; rw [if_neg h1, if_neg h2, if_neg h3, if_neg h4, if_neg h5]
end STEPS
theorem nE_gt {t : Nat → Int32} {n a : Nat} (h : dig (hd t n (sk t n a)) = true) : sk t n a < nE t n a := by
  have hl := dig_hd h
  rw [hd_in hl] at h
  have h1 : dg t n (sk t n a + 1) = dg t n (sk t n a) := rn_s (p := dig) hl h
  have h2 : sk t n a + 1 ≤ dg t n (sk t n a + 1) := rn_ge _
  unfold nE
  omega
theorem rn_all {p : Int32 → Bool} {t : Nat → Int32} {n : Nat} : ∀ (k a : Nat), k ≤ rn p t n a - a → ∀ j, a ≤ j → j < a + k → p (t j) = true := by
  intro k
  induction k with
  | zero => intro a _ j h1 h2; omega
  | succ k ih =>
    intro a hk j h1 h2
    by_cases hc : a < n ∧ p (t a) = true
    · by_cases e : j = a
      · subst e; exact hc.2
      · rw [← rn_s hc.1 hc.2] at hk
        exact ih (a + 1) (by omega) j (by omega) (by omega)
    · rw [rn_e hc] at hk; omega
theorem val2_le {t : Nat → Int32} {b e : Nat} (h : ∀ j, b ≤ j → j < e → dig (t j) = true) (h0 : b ≤ e) (he : e ≤ b + 2) : val2 t b e ≤ 99 := by
  unfold val2
  split
  · omega
  · rename_i h1
    have hb := dv_le (h b (by omega) (by omega))
    split
    · omega
    · rename_i h2
      have := dv_le (h (b + 1) (by omega) (by omega))
      omega
theorem nF_rng {t : Nat → Int32} {n a : Nat} (h : nFl t n a = 0) : sk t n a < nE t n a ∧ nE t n a ≤ sk t n a + 2 := by
  have h0 := nE_sk t n a
  unfold nFl at h
  split at h
  · exact absurd h (by decide)
  · split at h
    · exact absurd h (by decide)
    · omega
theorem nV_le {t : Nat → Int32} {n a : Nat} (h : nFl t n a = 0) : nV t n a ≤ 99 := by
  have h1 := nF_rng h
  exact val2_le (fun j h2 h3 => rn_all (p := dig) (nE t n a - sk t n a) (sk t n a) (Nat.le_refl _) j h2 (by omega)) (by omega) h1.2
/-- reading on: item by item, versions first -/
def pZ (t : Nat → Int32) (n : Nat) (z : Bool) (s : pS) : Bool := z && decide (hd t n (sk t n (s.1 12)) = nI 118)
def pIt (t : Nat → Int32) (n : Nat) (z : Bool) (s : pS) : iR := iST t n (pZ t n z s) (pN s 12 (sk t n (s.1 12)))
def pLF (t : Nat → Int32) (n : Nat) : Nat → Bool → pS → iR
  | 0, _, s => (0, 0, s)
  | f + 1, z, s => if sk t n (s.1 12) < n then (if (pIt t n z s).1 = 0 then pLF t n f (pZ t n z s) (pIt t n z s).2.2 else pIt t n z s) else if 0 < s.1 23 then (1, n, s) else (0, 0, s)
def pEv (t : Nat → Int32) (n : Nat) (z : Bool) (s : pS) (r : iR) : Prop := ∃ f0, ∀ f, f0 ≤ f → pLF t n f z s = r
theorem pEv_det {t : Nat → Int32} {n : Nat} {z : Bool} {s : pS} {r r' : iR} (h : pEv t n z s r) (h' : pEv t n z s r') : r = r' := by
  obtain ⟨f, hf⟩ := h
  obtain ⟨g, hg⟩ := h'
  rw [← hf (f + g) (by omega), hg (f + g) (by omega)]
theorem pEv_s {t : Nat → Int32} {n : Nat} {z : Bool} {s s' : pS} {p : Nat} {r : iR} (h1 : sk t n (s.1 12) < n) (h2 : pIt t n z s = (0, p, s')) (h : pEv t n (pZ t n z s) s' r) : pEv t n z s r := by
  obtain ⟨f, hf⟩ := h
  refine ⟨f + 1, fun g hg => ?_⟩
  obtain ⟨g, rfl⟩ : ∃ k, g = k + 1 := ⟨g - 1, by omega⟩
  rw [pLF, if_pos h1, h2, if_pos rfl]
  exact hf g (by omega)
theorem pEv_f {t : Nat → Int32} {n : Nat} {z : Bool} {s s' : pS} {f p : Nat} (h1 : sk t n (s.1 12) < n) (h2 : pIt t n z s = (f, p, s')) (hf : ¬ f = 0) : pEv t n z s (f, p, s') := by
  refine ⟨1, fun g hg => ?_⟩
  obtain ⟨g, rfl⟩ : ∃ k, g = k + 1 := ⟨g - 1, by omega⟩
  rw [pLF, if_pos h1, h2, if_neg hf]
theorem pEv_1 {t : Nat → Int32} {n : Nat} {z : Bool} {s : pS} (h1 : ¬ sk t n (s.1 12) < n) (h2 : 0 < s.1 23) : pEv t n z s (1, n, s) := by
  refine ⟨1, fun g hg => ?_⟩
  obtain ⟨g, rfl⟩ : ∃ k, g = k + 1 := ⟨g - 1, by omega⟩
  rw [pLF, if_neg h1, if_pos h2]
theorem pEv_0 {t : Nat → Int32} {n : Nat} {z : Bool} {s : pS} (h1 : ¬ sk t n (s.1 12) < n) (h2 : ¬ 0 < s.1 23) : pEv t n z s (0, 0, s) := by
  refine ⟨1, fun g hg => ?_⟩
  obtain ⟨g, rfl⟩ : ∃ k, g = k + 1 := ⟨g - 1, by omega⟩
  rw [pLF, if_neg h1, if_neg h2]
/-- two rows alike so far -/
def rwE (f g : Nat → Int32) (n : Nat) : Prop := ∀ i, i < n → f i = g i
theorem rwE.upd {f g : Nat → Int32} {n : Nat} (h : rwE f g n) (x : Int32) : rwE (upd f n x) (upd g n x) (n + 1) := by
  intro i hi
  by_cases e : i = n
  · subst e; rw [pk_us, pk_us]
  · rw [pk_un e, pk_un e]; exact h i (by omega)
theorem rwE.le {f g : Nat → Int32} {n m : Nat} (h : rwE f g n) (hm : m ≤ n) : rwE f g m := fun i hi => h i (by omega)
theorem rwE_0 (f g : Nat → Int32) : rwE f g 0 := fun i hi => absurd hi (Nat.not_lt_zero i)
theorem upd_upd (f : Nat → Int32) (k : Nat) (x y : Int32) : upd (upd f k x) k y = upd f k y := by
  funext j
  by_cases e : j = k
  · subst e; rw [pk_us, pk_us]
  · rw [pk_un e, pk_un e, pk_un e]
theorem brA_c {b c i j : Nat → Int32} : ∀ (d : Nat), rwE b c d → rwE i j d → brA b i d = brA c j d
  | 0, _, _ => rfl
  | d + 1, h, g => by rw [brA, brA, h d (by omega), g d (by omega), brA_c d (h.le (by omega)) (g.le (by omega))]
theorem tkA_c {b c i j : Nat → Int32} : ∀ (d : Nat), rwE b c d → rwE i j d → tkA b i d = tkA c j d
  | 0, _, _ => rfl
  | d + 1, h, g => by rw [tkA, tkA, h d (by omega), g d (by omega), tkA_c d (h.le (by omega)) (g.le (by omega))]
theorem mayB_c {b c i j : Nat → Int32} {v : Nat} {z : Bool} : ∀ (d : Nat), rwE b c d → rwE i j d → mayB b i v z d = mayB c j v z d
  | 0, _, _ => rfl
  | d + 1, h, g => by rw [mayB, mayB, h d (by omega), g d (by omega), mayB_c d (h.le (by omega)) (g.le (by omega))]
/-- what holds of a state of reading: bounds, parents; its rows in the reference -/
def PIs (n : Nat) (s : pS) : Prop := n ≤ 240 ∧ s.1 12 ≤ n ∧ s.1 15 ≤ 24 ∧ s.1 19 ≤ 120 ∧ s.1 23 ≤ s.1 12 ∧ parOK (s.2 16) (s.1 15)
def RwM (u : oS) (s : pS) : Prop := rwE (u.2 16) (s.2 16) (s.1 15) ∧ rwE (u.2 17) (s.2 17) (s.1 15) ∧ rwE (u.2 18) (s.2 18) (s.1 15) ∧ rwE (u.2 20) (s.2 20) (s.1 19) ∧ rwE (u.2 21) (s.2 21) (s.1 19) ∧ rwE (u.2 22) (s.2 22) (s.1 19) ∧ rwE (u.2 24) (s.2 24) (s.1 23) ∧ rwE (u.2 25) (s.2 25) (s.1 23)
def RSm (u : oS) (n : Nat) (s : pS) : Prop := u.1 10 = nI n ∧ u.1 12 = nI (s.1 12) ∧ u.1 15 = nI (s.1 15) ∧ u.1 19 = nI (s.1 19) ∧ u.1 23 = nI (s.1 23) ∧ PIs n s ∧ RwM u s
theorem RwM.of {u w : oS} {s : pS} (h : RwM u s) (e16 : w.2 16 = u.2 16) (e17 : w.2 17 = u.2 17) (e18 : w.2 18 = u.2 18) (e20 : w.2 20 = u.2 20) (e21 : w.2 21 = u.2 21) (e22 : w.2 22 = u.2 22) (e24 : w.2 24 = u.2 24) (e25 : w.2 25 = u.2 25) : RwM w s := by
  unfold RwM
  rw [e16, e17, e18, e20, e21, e22, e24, e25]
  exact h
theorem upd_self {f : Nat → Int32} {k : Nat} {x : Int32} (h : f k = x) : upd f k x = f := by
  funext j
  by_cases e : j = k
  · subst e; rw [pk_us]; exact h.symm
  · rw [pk_un e]
theorem RwM_v {u w : oS} {n : Nat} {s : pS} {t : Nat → Int32} {v e : Nat} {x y q : Int32} (h : RwM u s) (hq : q = if v = 99 then -1 else nI v) (e16 : w.2 16 = upd (u.2 16) (s.1 15) q) (e17 : w.2 17 = upd (u.2 17) (s.1 15) x) (e18 : w.2 18 = upd (u.2 18) (s.1 15) y) (e20 : w.2 20 = u.2 20) (e21 : w.2 21 = u.2 21) (e22 : w.2 22 = u.2 22) (e24 : w.2 24 = u.2 24) (e25 : w.2 25 = u.2 25) : RwM w (vOK t n s v e x y) := by
  obtain ⟨h1, h2, h3, h4, h5, h6, h7, h8⟩ := h
  unfold RwM
  rw [e16, e17, e18, e20, e21, e22, e24, e25]
  refine ⟨?_, h2.upd x, h3.upd y, h4, h5, h6, h7, h8⟩
  show rwE _ (upd (s.2 16) (s.1 15) (if v = 99 then -1 else nI v)) (s.1 15 + 1)
  rw [← hq]
  exact h1.upd q
theorem RwM_b {u w : oS} {n : Nat} {s : pS} {t : Nat → Int32} {a1 : Nat} {z : Bool} {q : Int32} (h : RwM u s) (hq : q = if z = true then 1 else 0) (e24 : w.2 24 = upd (u.2 24) (s.1 23) (nI (nV t n a1))) (e25 : w.2 25 = upd (u.2 25) (s.1 23) q) (e16 : w.2 16 = u.2 16) (e17 : w.2 17 = u.2 17) (e18 : w.2 18 = u.2 18) (e20 : w.2 20 = u.2 20) (e21 : w.2 21 = u.2 21) (e22 : w.2 22 = u.2 22) : RwM w (bOK t n z s a1) := by
  obtain ⟨h1, h2, h3, h4, h5, h6, h7, h8⟩ := h
  unfold RwM
  rw [e16, e17, e18, e20, e21, e22, e24, e25]
  refine ⟨h1, h2, h3, h4, h5, h6, h7.upd _, ?_⟩
  show rwE _ (upd (s.2 25) (s.1 23) (if z = true then 1 else 0)) (s.1 23 + 1)
  rw [← hq]
  exact h8.upd q
theorem RwM_l {u w : oS} {s : pS} {c x y : Int32} (h : RwM u s) (e20 : w.2 20 = upd (u.2 20) (s.1 19) c) (e21 : w.2 21 = upd (u.2 21) (s.1 19) x) (e22 : w.2 22 = upd (u.2 22) (s.1 19) y) (e16 : w.2 16 = u.2 16) (e17 : w.2 17 = u.2 17) (e18 : w.2 18 = u.2 18) (e24 : w.2 24 = u.2 24) (e25 : w.2 25 = u.2 25) : RwM w (lOK c s x y) := by
  obtain ⟨h1, h2, h3, h4, h5, h6, h7, h8⟩ := h
  unfold RwM
  rw [e16, e17, e18, e20, e21, e22, e24, e25]
  exact ⟨h1, h2, h3, h4.upd c, h5.upd x, h6.upd y, h7, h8⟩
theorem RwM_c {u w : oS} {s : pS} (h : RwM u s) (e16 : w.2 16 = u.2 16) (e17 : w.2 17 = u.2 17) (e18 : w.2 18 = u.2 18) (e20 : w.2 20 = u.2 20) (e21 : w.2 21 = u.2 21) (e22 : w.2 22 = u.2 22) (e24 : w.2 24 = u.2 24) (e25 : w.2 25 = u.2 25) : RwM w (cOK s) := by
  obtain ⟨h1, h2, h3, h4, h5, h6, h7, h8⟩ := h
  unfold RwM
  rw [e16, e17, e18, e20, e21, e22, e24, e25]
  exact ⟨h1, h2, h3, h4, h5, h6, h7.le (Nat.sub_le _ _), h8.le (Nat.sub_le _ _)⟩
theorem z01_if {z : Int32} (h : z = 0 ∨ z = 1) : z = if decide (¬ z = 0) = true then 1 else 0 := by rcases h with rfl | rfl <;> decide
/-- what the reference is behind a text that was woven -/
def WovM (u v : oS) (s : pS) : Prop := v.1 0 = nI (s.1 15) ∧ v.1 4 = nI (s.1 19) ∧ v.1 8 = nI 0 ∧ rwE (v.2 1) (s.2 16) (s.1 15) ∧ rwE (v.2 2) (s.2 17) (s.1 15) ∧ rwE (v.2 3) (s.2 18) (s.1 15) ∧ rwE (v.2 5) (s.2 20) (s.1 19) ∧ rwE (v.2 6) (s.2 21) (s.1 19) ∧ rwE (v.2 7) (s.2 22) (s.1 19) ∧ (∀ i, i < 2 → v.2 35 i = -1) ∧ rel [0, 4, 8, 10, 11, 12, 13, 14, 15, 19, 23] [1, 2, 3, 5, 6, 7, 16, 17, 18, 20, 21, 22, 24, 25, 35] u v
theorem rwE_cpr {f g s : Nat → Int32} {n : Nat} (h : rwE f s n) : rwE (cpr f g n) s n := by
  intro i hi
  rw [show cpr f g n i = f i from if_pos hi]
  exact h i hi
theorem RwM_s0 (u : oS) : RwM u s0 := ⟨rwE_0 _ _, rwE_0 _ _, rwE_0 _ _, rwE_0 _ _, rwE_0 _ _, rwE_0 _ _, rwE_0 _ _, rwE_0 _ _⟩

