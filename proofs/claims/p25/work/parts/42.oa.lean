/-! what is done with VERSIONS and LINES: one tale for class and reference.
    numbers of a state: 0 versions, 4 lines, 8 open (0, 1), 10 letters, 27 lines held; 40, 41 images (0: none; else its versions and 1), 42, 43 their lines; 50 .. 53 sheets (0: missing; else its size and 1)
    rows: 1 2 3 of versions, 5 6 7 of lines, 9 letters, 11 the latest fault's place (at 0), 28 29 30 lines held, 61 .. 67 and 71 .. 77 images -/
def fndN (p : Nat → Bool) : Nat → Nat → Nat
  | 0, _ => 0
  | n + 1, q => if fndN p n q < n then fndN p n q else if p n = true ∧ cnt p n = q then n else n + 1
theorem fndN_le (p : Nat → Bool) : ∀ n q, fndN p n q ≤ n
  | 0, _ => Nat.le_refl 0
  | n + 1, q => by
    have := fndN_le p n q
    rw [fndN]
    split
    · omega
    · split <;> omega
theorem fndN_miss {p : Nat → Bool} : ∀ {n q : Nat}, cnt p n ≤ q → fndN p n q = n
  | 0, _, _ => rfl
  | n + 1, q, h => by
    have h1 : cnt p n ≤ q := Nat.le_trans (cnt_mono p (Nat.le_succ n)) h
    rw [fndN, fndN_miss h1, if_neg (Nat.lt_irrefl n), if_neg]
    rintro ⟨h2, h3⟩
    rw [cnt_t h2] at h
    omega
theorem fndN_hit {p : Nat → Bool} {i q : Nat} (hp : p i = true) (hq : cnt p i = q) : ∀ {n : Nat}, i < n → fndN p n q = i
  | 0, h => absurd h (Nat.not_lt_zero i)
  | n + 1, h => by
    rw [fndN]
    by_cases e : i < n
    · rw [fndN_hit hp hq e, if_pos e]
    · have e2 : i = n := by omega
      subst e2
      rw [fndN_miss (by omega), if_neg (Nat.lt_irrefl i), if_pos ⟨hp, hq⟩]
theorem cnt_c {p q : Nat → Bool} : ∀ (n : Nat), (∀ k, k < n → p k = q k) → cnt p n = cnt q n
  | 0, _ => rfl
  | n + 1, h => by rw [cnt, cnt, h n (by omega), cnt_c n (fun k hk => h k (by omega))]
theorem fndN_c {p q : Nat → Bool} : ∀ (n x : Nat), (∀ k, k < n → p k = q k) → fndN p n x = fndN q n x
  | 0, _, _ => rfl
  | n + 1, x, h => by rw [fndN, fndN, h n (by omega), fndN_c n x (fun k hk => h k (by omega)), cnt_c n (fun k hk => h k (by omega))]
def fnI (p : Nat → Bool) (n q : Nat) : Int32 := if fndN p n q < n then nI (fndN p n q) else -1
theorem fnI_hit {p : Nat → Bool} {i q n : Nat} (hi : i < n) (hp : p i = true) (hq : cnt p i = q) : fnI p n q = nI i := by
  unfold fnI
  rw [fndN_hit hp hq hi, if_pos hi]
theorem fnI_miss {p : Nat → Bool} {q n : Nat} (h : cnt p n ≤ q) : fnI p n q = -1 := by
  unfold fnI
  rw [fndN_miss h, if_neg (Nat.lt_irrefl n)]
theorem fnI_c {p q : Nat → Bool} {n x : Nat} (h : ∀ k, k < n → p k = q k) : fnI p n x = fnI q n x := by
  unfold fnI
  rw [fndN_c n x h]
theorem fndN_is {p : Nat → Bool} : ∀ {n q : Nat}, q < cnt p n → fndN p n q < n ∧ p (fndN p n q) = true ∧ cnt p (fndN p n q) = q
  | 0, q, h => absurd h (Nat.not_lt_zero q)
  | n + 1, q, h => by
    rw [fndN]
    by_cases e : q < cnt p n
    · obtain ⟨h1, h2, h3⟩ := fndN_is e
      rw [if_pos h1]
      exact ⟨by omega, h2, h3⟩
    · rw [fndN_miss (by omega), if_neg (Nat.lt_irrefl n)]
      have hp : p n = true := by
        cases hb : p n
        · rw [cnt_f hb] at h; omega
        · rfl
      rw [cnt_t hp] at h
      have hc : cnt p n = q := by omega
      rw [if_pos ⟨hp, hc⟩]
      exact ⟨by omega, hp, hc⟩
/-- where a line is put in: behind the one at the place before -/
def posP (p : Nat → Bool) (n q : Nat) : Nat := if q = 0 then 0 else if fndN p n (q - 1) < n then fndN p n (q - 1) + 1 else 0
theorem posP_c {p q : Nat → Bool} {n x : Nat} (h : ∀ k, k < n → p k = q k) : posP p n x = posP q n x := by
  unfold posP
  rw [fndN_c n (x - 1) h]
theorem posP_le (p : Nat → Bool) (n q : Nat) : posP p n q ≤ n := by
  unfold posP
  split
  · omega
  · split <;> omega
def insP (f : Nat → Int32) (a : Nat) (c : Int32) : Nat → Int32 := fun j => if j < a then f j else if j = a then c else f (j - 1)
def delP (f : Nat → Int32) (a : Nat) : Nat → Int32 := fun j => if j < a then f j else f (j + 1)
theorem rwE.ins {f g : Nat → Int32} {n a : Nat} (h : rwE f g n) (c : Int32) (ha : a ≤ n) : rwE (insP f a c) (insP g a c) (n + 1) := by
  intro j hj
  unfold insP
  by_cases h1 : j < a
  · rw [if_pos h1, if_pos h1]; exact h j (by omega)
  · rw [if_neg h1, if_neg h1]
    by_cases h2 : j = a
    · rw [if_pos h2, if_pos h2]
    · rw [if_neg h2, if_neg h2]; exact h (j - 1) (by omega)
theorem rwE.del {f g : Nat → Int32} {n a : Nat} (h : rwE f g n) : rwE (delP f a) (delP g a) (n - 1) := by
  intro j hj
  unfold delP
  by_cases h1 : j < a
  · rw [if_pos h1, if_pos h1]; exact h j (by omega)
  · rw [if_neg h1, if_neg h1]; exact h (j + 1) (by omega)
theorem rwE.trans {f g k : Nat → Int32} {n : Nat} (h : rwE f g n) (h2 : rwE g k n) : rwE f k n := fun i hi => (h i hi).trans (h2 i hi)
theorem rwE.symm {f g : Nat → Int32} {n : Nat} (h : rwE f g n) : rwE g f n := fun i hi => (h i hi).symm
theorem rwE.refl (f : Nat → Int32) (n : Nat) : rwE f f n := fun _ _ => rfl
theorem rwE_updk {f g : Nat → Int32} {n k : Nat} {x y : Int32} (h : rwE f g n) (e : x = y) : rwE (upd f k x) (upd g k y) n := by
  subst e
  intro i hi
  by_cases e : i = k
  · subst e; rw [pk_us, pk_us]
  · rw [pk_un e, pk_un e]; exact h i hi
theorem insR_P (f : Nat → Int32) {n a : Nat} (c : Int32) (ha : a ≤ n) : rwE (insR f a n c) (insP f a c) (n + 1) := by
  intro j hj
  unfold insR insP
  by_cases e : j = a
  · subst e
    rw [pk_us, if_neg (Nat.lt_irrefl j), if_pos rfl]
  · rw [pk_un e]
    unfold va_cpy
    by_cases h1 : j < a
    · rw [if_neg (by omega), if_pos h1]
    · rw [if_pos (by omega), if_neg h1, if_neg e]
      congr 1
      omega
theorem cpy_del (f : Nat → Int32) {n a : Nat} (ha : a < n) : rwE (va_cpy f f (a + 1) a (n - (a + 1))) (delP f a) (n - 1) := by
  intro j hj
  unfold va_cpy delP
  by_cases h1 : j < a
  · rw [if_neg (by omega), if_pos h1]
  · rw [if_pos (by omega), if_neg h1]
    congr 1
    omega
theorem sdb_c {b c t u : Nat → Int32} {x : Int32} {n : Nat} (h1 : rwE b c n) (h2 : rwE t u n) : ∀ k, k < n → sdb b t x k = sdb c u x k := by
  intro k hk
  unfold sdb
  rw [h1 k hk, h2 k hk]
theorem nbb_c {b c t u : Nat → Int32} {n : Nat} (h1 : rwE b c n) (h2 : rwE t u n) : ∀ k, k < n → nbb b t k = nbb c u k := by
  intro k hk
  unfold nbb
  rw [h1 k hk, h2 k hk, h1 (k - 1) (by omega), h2 (k - 1) (by omega)]
/-- the changes of a version; what stands; a state's steps -/
def cvS (s : pS) (v : Nat) : Int32 := chV (s.2 1) (s.2 2) (s.2 3) (nI v)
def sdS (s : pS) (c : Int32) : Nat → Bool := sdb (s.2 6) (s.2 7) c
def nlS (s : pS) (c : Int32) : Nat := cnt (sdS s c) (s.1 4)
def olS (s : pS) : Nat := nlS s (cvS s (s.1 0))
def sOpen (s : pS) (x : Int32) : pS := pN (pN (pR (pR (pR (pR (pR (pR s 28 (s.2 5)) 29 (s.2 6)) 30 (s.2 7)) 1 (upd (s.2 1) (s.1 0) x)) 2 (upd (s.2 2) (s.1 0) (nI 0))) 3 (upd (s.2 3) (s.1 0) (nI 0))) 27 (s.1 4)) 8 1
def sIns (s : pS) (a : Nat) (c : Int32) : pS := pN (pR (pR (pR s 5 (insP (s.2 5) a c)) 6 (insP (s.2 6) a (nI (s.1 0)))) 7 (insP (s.2 7) a (nI 0))) 4 (s.1 4 + 1)
def sPut (s : pS) (q : Nat) (c : Int32) : pS := sIns s (posP (sdS s (cvS s (s.1 0))) (s.1 4) q) c
def sTake (s : pS) (a : Nat) : pS := if s.2 6 a = nI (s.1 0) then pN (pR (pR (pR s 5 (delP (s.2 5) a)) 6 (delP (s.2 6) a)) 7 (delP (s.2 7) a)) 4 (s.1 4 - 1) else pR s 7 (upd (s.2 7) a (s.2 7 a ||| b1 (s.1 0)))
def sClose (s : pS) : pS := pN (pN s 8 0) 0 (s.1 0 + 1)
def sInc (s : pS) (v : Nat) : pS := pR (pR s 3 (upd (s.2 3) (s.1 0) (s.2 3 (s.1 0) &&& (b1 v ^^^ (-1))))) 2 (upd (s.2 2) (s.1 0) (s.2 2 (s.1 0) ||| b1 v))
def sExc (s : pS) (v : Nat) : pS := pR (pR s 2 (upd (s.2 2) (s.1 0) (s.2 2 (s.1 0) &&& (b1 v ^^^ (-1))))) 3 (upd (s.2 3) (s.1 0) (s.2 3 (s.1 0) ||| b1 v))
def sLeave (s : pS) : pS := pN (pN (pR (pR (pR s 5 (s.2 28)) 6 (s.2 29)) 7 (s.2 30)) 4 (s.1 27)) 8 0
/-- lots: the next number, a line, a version, versions -/
def lot1 (x : Nat) : Nat := x * 16807 % 2147483647
def sLine (s : pS) (x : Nat) : pS × Nat × Bool :=
  if lot1 x % 3 = 2 then
    (if 0 < olS s then (sTake s (fndN (sdS s (cvS s (s.1 0))) (s.1 4) (lot1 (lot1 x) % olS s)), lot1 (lot1 x), true) else (s, lot1 x, true))
  else if s.1 4 = 120 then (s, lot1 x, false)
  else (sPut s (lot1 (lot1 (lot1 x)) % (olS s + 1)) (nI (65 + lot1 (lot1 x) % 26)), lot1 (lot1 (lot1 x)), true)
def sLines : Nat → pS × Nat × Bool → pS × Nat × Bool
  | 0, t => t
  | k + 1, t => if t.2.2 = true then sLines k (sLine t.1 t.2.1) else t
def sVer (t : pS × Nat × Bool) : pS × Nat × Bool :=
  (sClose (sLines 3 (sOpen t.1 (nI (lot1 t.2.1 % t.1.1 0)), lot1 t.2.1, true)).1, (sLines 3 (sOpen t.1 (nI (lot1 t.2.1 % t.1.1 0)), lot1 t.2.1, true)).2.1, (sLines 3 (sOpen t.1 (nI (lot1 t.2.1 % t.1.1 0)), lot1 t.2.1, true)).2.2)
def sVers : Nat → pS × Nat × Bool → pS × Nat × Bool
  | 0, t => t
  | k + 1, t => if t.2.2 = true ∧ t.1.1 0 < 24 then sVers k (sVer t) else t
def sDrift (s : pS) (n x : Nat) : pS := (sVers n (s, x, true)).1
/-! the core of a state in a Weave of the class, and in the reference -/
def CW (w : oS) (s : pS) (top : Nat) : Prop := w.1 0 = nI (s.1 0) ∧ w.1 5 = nI (s.1 4) ∧ rwE (w.2 1) (s.2 1) top ∧ rwE (w.2 2) (s.2 2) top ∧ rwE (w.2 3) (s.2 3) top ∧ (∀ i, i < top → w.2 4 i = cvS s i) ∧ rwE (w.2 6) (s.2 5) (s.1 4) ∧ rwE (w.2 7) (s.2 6) (s.1 4) ∧ rwE (w.2 8) (s.2 7) (s.1 4)
def CM (u : oS) (s : pS) (top : Nat) : Prop := u.1 0 = nI (s.1 0) ∧ u.1 4 = nI (s.1 4) ∧ rwE (u.2 1) (s.2 1) top ∧ rwE (u.2 2) (s.2 2) top ∧ rwE (u.2 3) (s.2 3) top ∧ rwE (u.2 5) (s.2 5) (s.1 4) ∧ rwE (u.2 6) (s.2 6) (s.1 4) ∧ rwE (u.2 7) (s.2 7) (s.1 4)
def IC (s : pS) (top : Nat) : Prop := s.1 0 ≤ 24 ∧ top ≤ 24 ∧ s.1 4 ≤ 120 ∧ parOK (s.2 1) top
theorem parRw2 {f g : Nat → Int32} {n : Nat} (h : rwE f g n) (hp : parOK g n) : parOK f n := fun i hi => by rw [h i hi]; exact hp i hi
section CORE
variable {w u : oS} {s : pS} {top : Nat}
theorem CW.sd (h : CW w s top) (c : Int32) : ∀ k, k < s.1 4 → sdb (w.2 7) (w.2 8) c k = sdS s c k := sdb_c h.2.2.2.2.2.2.2.1 h.2.2.2.2.2.2.2.2
theorem CW.nl (h : CW w s top) (c : Int32) : cnt (sdb (w.2 7) (w.2 8) c) (s.1 4) = nlS s c := cnt_c _ (h.sd c)
theorem CM.sd (h : CM u s top) (c : Int32) : ∀ k, k < s.1 4 → sdb (u.2 6) (u.2 7) c k = sdS s c k := sdb_c h.2.2.2.2.2.2.1 h.2.2.2.2.2.2.2
theorem CM.nl (h : CM u s top) (c : Int32) : cnt (sdb (u.2 6) (u.2 7) c) (s.1 4) = nlS s c := cnt_c _ (h.sd c)
theorem CM.par (h : CM u s top) (hI : IC s top) : parOK (u.2 1) top := parRw2 h.2.2.1 hI.2.2.2
theorem CM.cv (h : CM u s top) (hI : IC s top) {i : Nat} (hi : i < top) : chV (u.2 1) (u.2 2) (u.2 3) (nI i) = cvS s i :=
  chV_c (by have := hI.2.1; omega) ((h.par hI).le (by omega)) (fun j hj => ⟨h.2.2.1 j (by omega), h.2.2.2.1 j (by omega), h.2.2.2.2.1 j (by omega)⟩)
/-- opened, put in, taken out, included, excluded, closed: the class -/
theorem cvS_open {x : Int32} {i : Nat} (hI : IC s (s.1 0)) (hi : i < s.1 0) : cvS (sOpen s x) i = cvS s i :=
  (chV_c (by have := hI.1; omega) (hI.2.2.2.le (by omega)) (fun j hj => ⟨(pk_un (by omega)).symm, (pk_un (by omega)).symm, (pk_un (by omega)).symm⟩)).symm
theorem CW.opn {x : Int32} (h : CW w s (s.1 0)) (hI : IC s (s.1 0)) (hv : s.1 0 < 24) (hx : x = -1 ∨ ∃ t, t < s.1 0 ∧ x = nI t) : CW (bgW w (s.1 0) x (nI 0) (nI 0)) (sOpen s x) (s.1 0 + 1) := by
  obtain ⟨h1, h2, h3, h4, h5, h6, h7, h8, h9⟩ := h
  have hpw := parRw2 h3 hI.2.2.2
  have hch : chOK w (s.1 0) := fun i hi => (h6 i hi).trans (chV_c (by omega) (hI.2.2.2.le (by omega)) (fun j hj => ⟨(h3 j (by omega)).symm, (h4 j (by omega)).symm, (h5 j (by omega)).symm⟩))
  have hb := chOK_bg (b := nI 0) (d := nI 0) hch hpw hx hv
  refine ⟨h1, h2, h3.upd x, h4.upd _, h5.upd _, fun i hi => ?_, h7, h8, h9⟩
  refine (hb i hi).trans ?_
  refine chV_c (by omega) ((parOK_upd hpw hx).le (by omega)) (fun j hj => ⟨?_, ?_, ?_⟩)
  · exact (h3.upd x) j (by omega)
  · exact (h4.upd (nI 0)) j (by omega)
  · exact (h5.upd (nI 0)) j (by omega)
theorem CW.cls (h : CW w s (s.1 0 + 1)) : CW (oI w 0 (nI (s.1 0 + 1))) (sClose s) (s.1 0 + 1) := by
  obtain ⟨h1, h2, h3, h4, h5, h6, h7, h8, h9⟩ := h
  exact ⟨rfl, h2, h3, h4, h5, h6, h7, h8, h9⟩
theorem CW.ins {a : Nat} {c : Int32} (h : CW w s top) (ha : a ≤ s.1 4) : CW (insW w a (s.1 4) c (nI (s.1 0)) (nI 0)) (sIns s a c) top := by
  obtain ⟨h1, h2, h3, h4, h5, h6, h7, h8, h9⟩ := h
  exact ⟨h1, rfl, h3, h4, h5, h6, (insR_P _ _ ha).trans (h7.ins c ha), (insR_P _ _ ha).trans (h8.ins _ ha), (insR_P _ _ ha).trans (h9.ins _ ha)⟩
def delW (w : oS) (a nl : Nat) : oS := oI (oA (oA (oA w 6 (va_cpy (w.2 6) (w.2 6) (a + 1) a (nl - (a + 1)))) 7 (va_cpy (w.2 7) (w.2 7) (a + 1) a (nl - (a + 1)))) 8 (va_cpy (w.2 8) (w.2 8) (a + 1) a (nl - (a + 1)))) 5 (nI (nl - 1))
def tkW (w : oS) (a nv nl : Nat) : oS := if w.2 7 a = nI nv then delW w a nl else oA w 8 (upd (w.2 8) a (w.2 8 a ||| b1 nv))
theorem CW.tak {a : Nat} (h : CW w s top) (ha : a < s.1 4) : CW (tkW w a (s.1 0) (s.1 4)) (sTake s a) top := by
  obtain ⟨h1, h2, h3, h4, h5, h6, h7, h8, h9⟩ := h
  unfold tkW sTake
  rw [h8 a ha]
  by_cases e : s.2 6 a = nI (s.1 0)
  · rw [if_pos e, if_pos e]
    exact ⟨h1, rfl, h3, h4, h5, h6, (cpy_del _ ha).trans h7.del, (cpy_del _ ha).trans h8.del, (cpy_del _ ha).trans h9.del⟩
  · rw [if_neg e, if_neg e]
    refine ⟨h1, h2, h3, h4, h5, h6, h7, h8, ?_⟩
    show rwE (upd (w.2 8) a (w.2 8 a ||| b1 (s.1 0))) (upd (s.2 7) a (s.2 7 a ||| b1 (s.1 0))) (s.1 4)
    rw [h9 a ha]
    exact rwE_updk h9 rfl
end CORE
/-! the reference: lines moved one by one -/
def shE (f f0 : Nat → Int32) (n k : Nat) : Prop := ∀ j, j ≤ n → f j = if k < j then f0 (j - 1) else f0 j
theorem shE_0 (f0 : Nat → Int32) (n : Nat) : shE f0 f0 n n := fun j hj => by rw [if_neg (by omega)]
theorem shE_s {f f0 : Nat → Int32} {n k : Nat} (h : shE f f0 n k) (h0 : 0 < k) (hk : k ≤ n) : shE (upd f k (f (k - 1))) f0 n (k - 1) := by
  intro j hj
  by_cases e : j = k
  · subst e
    rw [pk_us, h (j - 1) (by omega), if_neg (by omega), if_pos (by omega)]
  · rw [pk_un e, h j hj]
    by_cases h1 : k < j
    · rw [if_pos h1, if_pos (by omega)]
    · rw [if_neg h1, if_neg (by omega)]
theorem shE_e {f f0 : Nat → Int32} {n a : Nat} (h : shE f f0 n a) (c : Int32) : rwE (upd f a c) (insP f0 a c) (n + 1) := by
  intro j hj
  unfold insP
  by_cases e : j = a
  · subst e
    rw [pk_us, if_neg (Nat.lt_irrefl j), if_pos rfl]
  · rw [pk_un e, h j (by omega)]
    by_cases h1 : j < a
    · rw [if_neg (by omega), if_pos h1]
    · rw [if_pos (by omega), if_neg h1, if_neg e]
def dnE (f f0 : Nat → Int32) (a k : Nat) : Prop := ∀ j, f j = if a ≤ j ∧ j + 1 < k then f0 (j + 1) else f0 j
theorem dnE_0 (f0 : Nat → Int32) (a : Nat) : dnE f0 f0 a (a + 1) := fun j => by rw [if_neg (by omega)]
theorem dnE_s {f f0 : Nat → Int32} {a k : Nat} (h : dnE f f0 a k) (h0 : a < k) : dnE (upd f (k - 1) (f k)) f0 a (k + 1) := by
  intro j
  by_cases e : j = k - 1
  · subst e
    rw [pk_us, h k, if_neg (by omega), if_pos (by omega)]
    congr 1
    omega
  · rw [pk_un e, h j]
    by_cases h1 : a ≤ j ∧ j + 1 < k
    · rw [if_pos h1, if_pos (by omega)]
    · rw [if_neg h1, if_neg (by omega)]
theorem dnE_e {f f0 : Nat → Int32} {a n : Nat} (h : dnE f f0 a n) : rwE f (delP f0 a) (n - 1) := by
  intro j hj
  unfold delP
  rw [h j]
  by_cases h1 : j < a
  · rw [if_neg (by omega), if_pos h1]
  · rw [if_pos (by omega), if_neg h1]
/-- the reference's core behind a step -/
theorem CM.opn {u : oS} {s : pS} {x : Int32} (h : CM u s (s.1 0)) : CM (opU u (s.1 0) (s.1 4) x) (sOpen s x) (s.1 0 + 1) := by
  obtain ⟨h1, h2, h3, h4, h5, h6, h7, h8⟩ := h
  exact ⟨h1, h2, h3.upd x, h4.upd _, h5.upd _, h6, h7, h8⟩
theorem CM.of {u v : oS} {s : pS} {top : Nat} (h : CM u s top) (e0 : v.1 0 = u.1 0) (e4 : v.1 4 = u.1 4) (e1 : v.2 1 = u.2 1) (e2 : v.2 2 = u.2 2) (e3 : v.2 3 = u.2 3) (e5 : v.2 5 = u.2 5) (e6 : v.2 6 = u.2 6) (e7 : v.2 7 = u.2 7) : CM v s top := by
  unfold CM
  rw [e0, e4, e1, e2, e3, e5, e6, e7]
  exact h
theorem CM.ins {u v : oS} {s : pS} {top a : Nat} {c : Int32} (h : CM u s top) (ha : a ≤ s.1 4) (e0 : v.1 0 = u.1 0) (e4 : v.1 4 = nI (s.1 4 + 1)) (e1 : v.2 1 = u.2 1) (e2 : v.2 2 = u.2 2) (e3 : v.2 3 = u.2 3) (h5 : rwE (v.2 5) (insP (u.2 5) a c) (s.1 4 + 1)) (h6 : rwE (v.2 6) (insP (u.2 6) a (nI (s.1 0))) (s.1 4 + 1)) (h7 : rwE (v.2 7) (insP (u.2 7) a (nI 0)) (s.1 4 + 1)) : CM v (sIns s a c) top := by
  obtain ⟨g1, g2, g3, g4, g5, g6, g7, g8⟩ := h
  refine ⟨e0.trans g1, e4, ?_, ?_, ?_, h5.trans (g6.ins c ha), h6.trans (g7.ins _ ha), h7.trans (g8.ins _ ha)⟩
  · rw [e1]; exact g3
  · rw [e2]; exact g4
  · rw [e3]; exact g5
theorem CM.del {u v : oS} {s : pS} {top a : Nat} (h : CM u s top) (hb : s.2 6 a = nI (s.1 0)) (e0 : v.1 0 = u.1 0) (e4 : v.1 4 = nI (s.1 4 - 1)) (e1 : v.2 1 = u.2 1) (e2 : v.2 2 = u.2 2) (e3 : v.2 3 = u.2 3) (h5 : rwE (v.2 5) (delP (u.2 5) a) (s.1 4 - 1)) (h6 : rwE (v.2 6) (delP (u.2 6) a) (s.1 4 - 1)) (h7 : rwE (v.2 7) (delP (u.2 7) a) (s.1 4 - 1)) : CM v (sTake s a) top := by
  obtain ⟨g1, g2, g3, g4, g5, g6, g7, g8⟩ := h
  unfold sTake
  rw [if_pos hb]
  refine ⟨e0.trans g1, e4, ?_, ?_, ?_, h5.trans g6.del, h6.trans g7.del, h7.trans g8.del⟩
  · rw [e1]; exact g3
  · rw [e2]; exact g4
  · rw [e3]; exact g5
theorem CM.tk {u : oS} {s : pS} {top a : Nat} (h : CM u s top) (ha : a < s.1 4) (hb : ¬ s.2 6 a = nI (s.1 0)) : CM (oA u 7 (upd (u.2 7) a (u.2 7 a ||| b1 (s.1 0)))) (sTake s a) top := by
  obtain ⟨g1, g2, g3, g4, g5, g6, g7, g8⟩ := h
  unfold sTake
  rw [if_neg hb]
  refine ⟨g1, g2, g3, g4, g5, g6, g7, ?_⟩
  show rwE (upd (u.2 7) a (u.2 7 a ||| b1 (s.1 0))) (upd (s.2 7) a (s.2 7 a ||| b1 (s.1 0))) (s.1 4)
  rw [g8 a ha]
  exact rwE_updk g8 rfl
theorem sLines_e {k : Nat} {t : pS × Nat × Bool} (h : ¬ t.2.2 = true) : sLines k t = t := by
  cases k with
  | zero => rfl
  | succ k => rw [sLines, if_neg h]
theorem sVers_e {k : Nat} {t : pS × Nat × Bool} (h : ¬ (t.2.2 = true ∧ t.1.1 0 < 24)) : sVers k t = t := by
  cases k with
  | zero => rfl
  | succ k => rw [sVers, if_neg h]
/-! a whole state: what holds of it, how the reference bears it -/
def IS (s : pS) : Prop := s.1 0 ≤ 24 ∧ s.1 4 ≤ 120 ∧ s.1 8 ≤ 1 ∧ (s.1 8 = 1 → s.1 0 < 24) ∧ parOK (s.2 1) (s.1 0 + s.1 8) ∧ s.1 10 ≤ 240 ∧ (∀ i, i < s.1 10 → ∃ j, j ≤ 255 ∧ s.2 9 i = nI j) ∧ s.1 27 ≤ 120
  ∧ (s.1 40 ≤ 25 ∧ s.1 42 ≤ 120 ∧ parOK (s.2 61) (s.1 40 - 1)) ∧ (s.1 41 ≤ 25 ∧ s.1 43 ≤ 120 ∧ parOK (s.2 71) (s.1 41 - 1)) ∧ (∀ j, j < 4 → s.1 (50 + j) ≤ 41)
def HdM (u : oS) (s : pS) : Prop := u.1 27 = nI (s.1 27) ∧ rwE (u.2 28) (s.2 28) (s.1 27) ∧ rwE (u.2 29) (s.2 29) (s.1 27) ∧ rwE (u.2 30) (s.2 30) (s.1 27)
def ImM (u : oS) (i : Nat) (n q : Nat) (p1 p2 p3 p5 p6 p7 : Nat → Int32) : Prop := (n = 0 ∧ u.2 35 i = -1) ∨ (0 < n ∧ u.2 35 i = nI (n - 1) ∧ u.2 36 i = nI q ∧ rwE (fun j => u.2 37 (432 * i + j)) p1 (n - 1) ∧ rwE (fun j => u.2 37 (432 * i + 24 + j)) p2 (n - 1) ∧ rwE (fun j => u.2 37 (432 * i + 48 + j)) p3 (n - 1) ∧ rwE (fun j => u.2 37 (432 * i + 72 + j)) p5 q ∧ rwE (fun j => u.2 37 (432 * i + 192 + j)) p6 q ∧ rwE (fun j => u.2 37 (432 * i + 312 + j)) p7 q)
def ShM (u : oS) (sj : Nat → Int64) (s : pS) (zz : Nat → Nat → Int64) : Prop := ∀ j, j < 4 → (s.1 (50 + j) = 0 ∧ u.2 32 j = 0 ∧ ∃ q, q ≤ 40 ∧ u.2 33 j = nI q) ∨ (0 < s.1 (50 + j) ∧ ¬ u.2 32 j = 0 ∧ u.2 33 j = nI (s.1 (50 + j) - 1) ∧ ∀ k, k < s.1 (50 + j) - 1 → sj (40 * j + k) = zz j k)
def RepM (u : oS) (sj : Nat → Int64) (s : pS) (zz : Nat → Nat → Int64) : Prop := CM u s (s.1 0 + s.1 8) ∧ u.1 8 = nI (s.1 8) ∧ u.1 10 = nI (s.1 10) ∧ rwE (u.2 9) (s.2 9) (s.1 10) ∧ u.1 11 = s.2 11 0 ∧ (s.1 8 = 1 → HdM u s) ∧ (∃ q, q ≤ 120 ∧ u.1 27 = nI q)
  ∧ ImM u 0 (s.1 40) (s.1 42) (s.2 61) (s.2 62) (s.2 63) (s.2 65) (s.2 66) (s.2 67) ∧ ImM u 1 (s.1 41) (s.1 43) (s.2 71) (s.2 72) (s.2 73) (s.2 75) (s.2 76) (s.2 77) ∧ ShM u sj s zz
theorem four {P : Nat → Prop} (h0 : P 0) (h1 : P 1) (h2 : P 2) (h3 : P 3) : ∀ j, j < 4 → P j := by
  intro j hj
  rcases (show j = 0 ∨ j = 1 ∨ j = 2 ∨ j = 3 by omega) with rfl | rfl | rfl | rfl
  · exact h0
  · exact h1
  · exact h2
  · exact h3
theorem f41 {s t : pS} (h : ∀ j, j < 4 → s.1 (50 + j) ≤ 41) (h0 : t.1 50 = s.1 50) (h1 : t.1 51 = s.1 51) (h2 : t.1 52 = s.1 52) (h3 : t.1 53 = s.1 53) : ∀ j, j < 4 → t.1 (50 + j) ≤ 41 :=
  four (by show t.1 50 ≤ 41; rw [h0]; exact h 0 (by omega)) (by show t.1 51 ≤ 41; rw [h1]; exact h 1 (by omega)) (by show t.1 52 ≤ 41; rw [h2]; exact h 2 (by omega)) (by show t.1 53 ≤ 41; rw [h3]; exact h 3 (by omega))
theorem ShM.f4 {u v : oS} {sj : Nat → Int64} {s t : pS} {zz : Nat → Nat → Int64} (h : ShM u sj s zz) (h0 : t.1 50 = s.1 50) (h1 : t.1 51 = s.1 51) (h2 : t.1 52 = s.1 52) (h3 : t.1 53 = s.1 53) (e32 : v.2 32 = u.2 32) (e33 : v.2 33 = u.2 33) : ShM v sj t zz := by
  have hn : ∀ j, j < 4 → t.1 (50 + j) = s.1 (50 + j) := four h0 h1 h2 h3
  intro j hj
  rw [hn j hj, e32, e33]
  exact h j hj
theorem IS.ic {s : pS} (h : IS s) : IC s (s.1 0 + s.1 8) := by
  obtain ⟨h1, h2, h3, h4, h5, -⟩ := h
  refine ⟨h1, ?_, h2, h5⟩
  rcases Nat.lt_or_ge (s.1 8) 1 with q | q
  · omega
  · have := h4 (by omega); omega
theorem ImM.mi {u : oS} {i n q : Nat} {p1 p2 p3 p5 p6 p7 : Nat → Int32} (h : ImM u i n q p1 p2 p3 p5 p6 p7) (hn : n ≤ 25) (hq : q ≤ 120) (hp : parOK p1 (n - 1)) : u.2 35 i = -1 ∨ ∃ n q, n ≤ 24 ∧ q ≤ 120 ∧ u.2 35 i = nI n ∧ u.2 36 i = nI q ∧ parOK (fun j => u.2 37 (432 * i + j)) n := by
  rcases h with ⟨-, h⟩ | ⟨h0, h1, h2, h3, -⟩
  · exact Or.inl h
  · exact Or.inr ⟨n - 1, q, by omega, hq, h1, h2, parRw2 h3 hp⟩
/-- what the reference keeps to, out of the state -/
theorem RepM.mix {u : oS} {sj : Nat → Int64} {s : pS} {zz : Nat → Nat → Int64} (h : RepM u sj s zz) (hI : IS s) : ∃ nh, MIx u (s.1 0) (s.1 4) (s.1 10) nh := by
  obtain ⟨hC, h8, h10, h9, h11, hH, ⟨q, hq, h27⟩, hm0, hm1, hs⟩ := h
  have hic := hI.ic
  obtain ⟨i1, i2, i3, i4, i5, i6, i7, i8, ⟨a1, a2, a3⟩, ⟨b1, b2, b3⟩, i11⟩ := hI
  have hp := hC.par hic
  refine ⟨q, hC.1, hC.2.1, h10, h27, i1, i2, i6, hq, ?_, ?_, hp.le (by omega), ?_, ?_⟩
  · rw [h8]
    rcases (show s.1 8 = 0 ∨ s.1 8 = 1 by omega) with e | e
    · rw [e]; exact Or.inl rfl
    · rw [e]; exact Or.inr rfl
  · intro e
    have e1 : s.1 8 = 1 := by
      rcases (show s.1 8 = 0 ∨ s.1 8 = 1 by omega) with e2 | e2
      · rw [h8, e2] at e
        exact absurd e (by decide)
      · exact e2
    refine ⟨i4 e1, ?_⟩
    rw [e1] at hp
    exact hp
  · intro j hj
    rcases hs j hj with ⟨-, -, h⟩ | ⟨g0, -, g2, -⟩
    · exact h
    · have := i11 j hj
      exact ⟨s.1 (50 + j) - 1, by omega, g2⟩
  · intro i hi
    rcases (show i = 0 ∨ i = 1 by omega) with rfl | rfl
    · exact hm0.mi a1 a2 a3
    · exact hm1.mi b1 b2 b3
/-- the same state, where nothing that bears it was touched -/
theorem RepM.of {u v : oS} {sj : Nat → Int64} {s : pS} {zz : Nat → Nat → Int64} (h : RepM u sj s zz) (hs : ∀ k, k = 0 ∨ k = 4 ∨ k = 8 ∨ k = 10 ∨ k = 11 ∨ k = 27 → v.1 k = u.1 k) (hr : ∀ k, k = 1 ∨ k = 2 ∨ k = 3 ∨ k = 5 ∨ k = 6 ∨ k = 7 ∨ k = 9 ∨ k = 28 ∨ k = 29 ∨ k = 30 ∨ k = 32 ∨ k = 33 ∨ k = 35 ∨ k = 36 ∨ k = 37 → v.2 k = u.2 k) : RepM v sj s zz := by
  unfold RepM CM HdM ImM ShM
  rw [hs 0 (by omega), hs 4 (by omega), hs 8 (by omega), hs 10 (by omega), hs 11 (by omega), hs 27 (by omega), hr 1 (by omega), hr 2 (by omega), hr 3 (by omega), hr 5 (by omega), hr 6 (by omega), hr 7 (by omega), hr 9 (by omega), hr 28 (by omega), hr 29 (by omega), hr 30 (by omega), hr 32 (by omega), hr 33 (by omega), hr 35 (by omega), hr 36 (by omega), hr 37 (by omega)]
  exact h
/-- a state with another core -/
theorem RepM_cls {u : oS} {sj : Nat → Int64} {s : pS} {zz : Nat → Nat → Int64} (h : RepM u sj s zz) (ho : s.1 8 = 1) : RepM (oI (oI u 8 (nI 0)) 0 (nI (s.1 0 + 1))) sj (sClose s) zz := by
  obtain ⟨⟨c1, c2, c3, c4, c5, c6, c7, c8⟩, h8, h10, h9, h11, hH, h27, hm0, hm1, hs⟩ := h
  rw [ho] at c3 c4 c5
  exact ⟨⟨rfl, c2, c3, c4, c5, c6, c7, c8⟩, rfl, h10, h9, h11, fun e => absurd e (show ¬ (0 : Nat) = 1 by decide), h27, hm0, hm1, hs.f4 rfl rfl rfl rfl rfl rfl⟩
theorem RepM_opn {u : oS} {sj : Nat → Int64} {s : pS} {zz : Nat → Nat → Int64} {x : Int32} (h : RepM u sj s zz) (hI : IS s) (ho : s.1 8 = 0) : RepM (opU u (s.1 0) (s.1 4) x) sj (sOpen s x) zz := by
  obtain ⟨hC, h8, h10, h9, h11, hH, h27, hm0, hm1, hs⟩ := h
  rw [ho] at hC
  have hC2 : CM u s (s.1 0) := hC
  obtain ⟨c1, c2, c3, c4, c5, c6, c7, c8⟩ := id hC2
  exact ⟨hC2.opn, rfl, h10, h9, h11, fun _ => ⟨rfl, rwE_cpr c6, rwE_cpr c7, rwE_cpr c8⟩, ⟨s.1 4, hI.2.1, rfl⟩, hm0, hm1, hs.f4 rfl rfl rfl rfl rfl rfl⟩
theorem IS_cls {s : pS} (h : IS s) (ho : s.1 8 = 1) : IS (sClose s) := by
  obtain ⟨i1, i2, i3, i4, i5, i6, i7, i8, i9, i10, i11⟩ := h
  have := i4 ho
  rw [ho] at i5
  exact ⟨this, i2, Nat.zero_le _, fun e => absurd e (show ¬ (0 : Nat) = 1 by decide), i5, i6, i7, i8, i9, i10, f41 i11 rfl rfl rfl rfl⟩
theorem IS_opn {s : pS} {x : Int32} (h : IS s) (ho : s.1 8 = 0) (hv : s.1 0 < 24) (hx : x = -1 ∨ ∃ t, t < s.1 0 ∧ x = nI t) : IS (sOpen s x) := by
  obtain ⟨i1, i2, i3, i4, i5, i6, i7, i8, i9, i10, i11⟩ := h
  rw [ho] at i5
  exact ⟨i1, i2, Nat.le_refl 1, fun _ => hv, parOK_upd i5 hx, i6, i7, i2, i9, i10, f41 i11 rfl rfl rfl rfl⟩
/-! a whole state in the class -/
def mkS (n q : Nat) (p1 p2 p3 p5 p6 p7 : Nat → Int32) : pS := (fun k => if k = 0 then n else q, fun k => if k = 1 then p1 else if k = 2 then p2 else if k = 3 then p3 else if k = 5 then p5 else if k = 6 then p6 else p7)
def ImX (y : Int32) (w : oS) (n q : Nat) (p1 p2 p3 p5 p6 p7 : Nat → Int32) : Prop := (n = 0 ∧ y = 0) ∨ (0 < n ∧ ¬ y = 0 ∧ CW w (mkS (n - 1) q p1 p2 p3 p5 p6 p7) (n - 1))
def ShX (z : oS) (jj : Nat → Nat → Int64) (s : pS) (zz : Nat → Nat → Int64) : Prop := ∀ j, j < 4 → (s.1 (50 + j) = 0 ∧ z.2 1 j = -1) ∨ (0 < s.1 (50 + j) ∧ z.2 1 j = nI (s.1 (50 + j) - 1) ∧ ∀ k, k < s.1 (50 + j) - 1 → jj j k = zz j k)
def RepX (x wn wa w0 w1 rd z : oS) (jj : Nat → Nat → Int64) (s : pS) (zz : Nat → Nat → Int64) : Prop := CW wn s (s.1 0 + s.1 8) ∧ x.1 7 = nI (s.1 8) ∧ (s.1 8 = 1 → CW wa (sLeave s) (s.1 0)) ∧ rd.1 1 = nI (s.1 10) ∧ rwE (rd.2 0) (s.2 9) (s.1 10) ∧ x.1 8 = s.2 11 0
  ∧ ImX (x.2 3 0) w0 (s.1 40) (s.1 42) (s.2 61) (s.2 62) (s.2 63) (s.2 65) (s.2 66) (s.2 67) ∧ ImX (x.2 3 1) w1 (s.1 41) (s.1 43) (s.2 71) (s.2 72) (s.2 73) (s.2 75) (s.2 76) (s.2 77) ∧ ShX z jj s zz
theorem ShX.f4 {z : oS} {jj : Nat → Nat → Int64} {s t : pS} {zz : Nat → Nat → Int64} (h : ShX z jj s zz) (h0 : t.1 50 = s.1 50) (h1 : t.1 51 = s.1 51) (h2 : t.1 52 = s.1 52) (h3 : t.1 53 = s.1 53) : ShX z jj t zz := by
  have hn : ∀ j, j < 4 → t.1 (50 + j) = s.1 (50 + j) := four h0 h1 h2 h3
  intro j hj
  rw [hn j hj]
  exact h j hj
/-- a copy of a Weave -/
def cpW (w v : oS) : Prop := v.1 0 = w.1 0 ∧ v.1 5 = w.1 5 ∧ rwE (v.2 1) (w.2 1) 24 ∧ rwE (v.2 2) (w.2 2) 24 ∧ rwE (v.2 3) (w.2 3) 24 ∧ rwE (v.2 4) (w.2 4) 24 ∧ rwE (v.2 6) (w.2 6) 120 ∧ rwE (v.2 7) (w.2 7) 120 ∧ rwE (v.2 8) (w.2 8) 120
theorem cpy_all (f g : Nat → Int32) (n : Nat) : rwE (va_cpy f g 0 0 n) f n := by
  intro j hj
  unfold va_cpy
  rw [if_pos (by omega)]
  congr 1
  omega
theorem CW.bec {w v : oS} {s : pS} {top : Nat} (h : CW w s top) (hc : cpW w v) (ht : top ≤ 24) (hl : s.1 4 ≤ 120) : CW v s top := by
  obtain ⟨h1, h2, h3, h4, h5, h6, h7, h8, h9⟩ := h
  obtain ⟨c1, c2, c3, c4, c5, c6, c7, c8, c9⟩ := hc
  exact ⟨c1.trans h1, c2.trans h2, (c3.le ht).trans h3, (c4.le ht).trans h4, (c5.le ht).trans h5, fun i hi => (c6 i (by omega)).trans (h6 i hi), (c7.le hl).trans h7, (c8.le hl).trans h8, (c9.le hl).trans h9⟩
/-- the first line that only one of two sets has -/
def ptN (p q : Nat → Bool) : Nat → Nat
  | 0 => 0
  | n + 1 => if ptN p q n < n then ptN p q n else if p n = q n then n + 1 else n
theorem ptN_le (p q : Nat → Bool) : ∀ n, ptN p q n ≤ n
  | 0 => Nat.le_refl 0
  | n + 1 => by
    have := ptN_le p q n
    rw [ptN]
    split
    · omega
    · split <;> omega
theorem ptN_same {p q : Nat → Bool} : ∀ {n : Nat}, (∀ j, j < n → p j = q j) → ptN p q n = n
  | 0, _ => rfl
  | n + 1, h => by rw [ptN, ptN_same (fun j hj => h j (by omega)), if_neg (Nat.lt_irrefl n), if_pos (h n (by omega))]
theorem ptN_at {p q : Nat → Bool} {i : Nat} (hb : ∀ j, j < i → p j = q j) (hi : ¬ p i = q i) : ∀ {n : Nat}, i < n → ptN p q n = i
  | 0, h => absurd h (Nat.not_lt_zero i)
  | n + 1, h => by
    rw [ptN]
    by_cases e : i < n
    · rw [ptN_at hb hi e, if_pos e]
    · have e2 : i = n := by omega
      subst e2
      rw [ptN_same hb, if_neg (Nat.lt_irrefl i), if_neg hi]
def partP (p q : Nat → Bool) (n : Nat) : Int32 := if ptN p q n < n then nI (cnt p (ptN p q n)) else -1
/-- a set told by a test on each number -/
def lifF (f : Nat → Bool) : Nat → Int32
  | 0 => nI 0
  | n + 1 => lifF f n ||| (if f n = true then b1 n else 0)
theorem lifF_c {f g : Nat → Bool} : ∀ (n : Nat), (∀ k, k < n → f k = g k) → lifF f n = lifF g n
  | 0, _ => rfl
  | n + 1, h => by rw [lifF, lifF, h n (by omega), lifF_c n (fun k hk => h k (by omega))]
def lifeS (s : pS) (i : Nat) : Int32 := lifF (fun v => sdS s (cvS s v) i) (s.1 0)
/-- those that one goes on from, itself too -/
def eldG (par : Nat → Int32) : Nat → Int32 → Int32
  | 0, _ => 0
  | f + 1, y => if y < 0 then 0 else b1 y.toNatClampNeg ||| eldG par f (par y.toNatClampNeg)
def eldV (par : Nat → Int32) (y : Int32) : Int32 := eldG par 25 y
theorem eldG_m1 (par : Nat → Int32) (f : Nat) : eldG par f (-1) = 0 := by
  cases f with
  | zero => rfl
  | succ f => rw [eldG, if_pos (by decide)]
theorem eldG_s {par : Nat → Int32} {f i : Nat} (hi : i < 2 ^ 31) : eldG par (f + 1) (nI i) = b1 i ||| eldG par f (par i) := by rw [eldG, if_neg (nI_pos hi), nI_clamp hi]
theorem eldG_eq {par : Nat → Int32} : ∀ (i f g : Nat), i < f → i < g → i < 2 ^ 31 → parOK par (i + 1) → eldG par f (nI i) = eldG par g (nI i) := by
  intro i
  induction i using Nat.strongRecOn with
  | ind i ih =>
    intro f g hf hg hi hp
    obtain ⟨f, rfl⟩ : ∃ k, f = k + 1 := ⟨f - 1, by omega⟩
    obtain ⟨g, rfl⟩ : ∃ k, g = k + 1 := ⟨g - 1, by omega⟩
    rw [eldG_s hi, eldG_s hi]
    rcases hp i (by omega) with e | ⟨t, ht, e⟩
    · rw [e, eldG_m1, eldG_m1]
    · rw [e, ih t ht f g (by omega) (by omega) (by omega) (hp.le (by omega))]
theorem eldV_m1 (par : Nat → Int32) : eldV par (-1) = 0 := eldG_m1 _ _
theorem eldV_s {par : Nat → Int32} {i : Nat} (hi : i ≤ 24) (hp : parOK par (i + 1)) : eldV par (nI i) = b1 i ||| eldV par (par i) := by
  unfold eldV
  rw [eldG_s (f := 24) (by omega)]
  rcases hp i (by omega) with e | ⟨t, ht, e⟩
  · rw [e, eldG_m1, eldG_m1]
  · rw [e, eldG_eq t 24 25 (by omega) (by omega) (by omega) (hp.le (by omega))]
theorem eldG_c {par par' : Nat → Int32} : ∀ (f i : Nat), i < 2 ^ 31 → parOK par (i + 1) → (∀ j, j ≤ i → par j = par' j) → eldG par f (nI i) = eldG par' f (nI i) := by
  intro f
  induction f with
  | zero => intro i _ _ _; rfl
  | succ f ih =>
    intro i hi hp h
    rw [eldG_s hi, eldG_s hi, ← h i (Nat.le_refl i)]
    rcases hp i (by omega) with q | ⟨t, ht, q⟩
    · rw [q, eldG_m1, eldG_m1]
    · rw [q, ih t (by omega) (hp.le (by omega)) (fun j hj => h j (by omega))]
/-- the youngest of a set -/
def hiB (c : Int32) : Nat → Int32
  | 0 => -1
  | n + 1 => if hasb c n = true then nI n else hiB c n
/-! the part of two texts, told place by place -/
theorem fn_low {A B : Nat → Bool} {i n q : Nat} (hn : n ≤ 100000) (hs : ∀ j, j < i → A j = B j) (hi : i ≤ n) (hq : q < cnt A i) : fnI A n q = fnI B n q ∧ ¬ fnI A n q = -1 := by
  obtain ⟨h1, h2, h3⟩ := fndN_is hq
  have hB : B (fndN A i q) = true := by rw [← hs _ h1]; exact h2
  have hc : cnt B (fndN A i q) = q := by rw [← cnt_c _ (fun k hk => hs k (by omega))]; exact h3
  rw [fnI_hit (i := fndN A i q) (by omega) h2 h3, fnI_hit (i := fndN A i q) (by omega) hB hc]
  exact ⟨rfl, nI_nm1 (by omega)⟩
theorem fn_no {B : Nat → Bool} {i n q : Nat} (hn : n ≤ 100000) (hi : i < n) (hb : B i = false) : ¬ nI i = fnI B n q := by
  intro e
  rcases Nat.lt_or_ge q (cnt B n) with h | h
  · obtain ⟨h1, h2, h3⟩ := fndN_is h
    rw [fnI_hit (i := fndN B n q) h1 h2 h3] at e
    have e2 := nI_inj5 (by omega) (by omega) e
    rw [← e2, hb] at h2
    cases h2
  · rw [fnI_miss h] at e
    exact nI_nm1 (by omega) e
theorem fn_ne {A B : Nat → Bool} {i n : Nat} (hn : n ≤ 100000) (hs : ∀ j, j < i → A j = B j) (hi : i < n) (hd : ¬ A i = B i) : ¬ fnI A n (cnt A i) = fnI B n (cnt A i) := by
  have hc : cnt B i = cnt A i := (cnt_c i hs).symm
  cases ha : A i
  · have hb : B i = true := by
      cases hb : B i
      · rw [ha, hb] at hd; exact absurd rfl hd
      · rfl
    rw [fnI_hit (p := B) hi hb hc]
    exact fun e => fn_no hn hi ha e.symm
  · have hb : B i = false := by
      cases hb : B i
      · rfl
      · rw [ha, hb] at hd; exact absurd rfl hd
    rw [fnI_hit (p := A) hi ha rfl]
    exact fn_no hn hi hb
theorem fnI_neg {p : Nat → Bool} {n q : Nat} (hn : n ≤ 100000) (h : fnI p n q < 0) : fnI p n q = -1 := by
  unfold fnI at h ⊢
  by_cases e : fndN p n q < n
  · rw [if_pos e] at h
    exact absurd h (nI_pos (by omega))
  · rw [if_neg e]
theorem ptN_is {A B : Nat → Bool} : ∀ (n : Nat), (∀ j, j < ptN A B n → A j = B j) ∧ (ptN A B n < n → ¬ A (ptN A B n) = B (ptN A B n))
  | 0 => ⟨fun j hj => absurd hj (Nat.not_lt_zero j), fun h => absurd h (Nat.not_lt_zero _)⟩
  | n + 1 => by
    obtain ⟨h1, h2⟩ := ptN_is n
    have h3 := ptN_le A B n
    rw [ptN]
    by_cases e : ptN A B n < n
    · rw [if_pos e]
      exact ⟨h1, fun _ => h2 e⟩
    · have e2 : ptN A B n = n := by omega
      rw [if_neg e]
      rw [e2] at h1
      by_cases e3 : A n = B n
      · rw [if_pos e3]
        refine ⟨fun j hj => ?_, fun h => absurd h (Nat.lt_irrefl _)⟩
        by_cases e4 : j = n
        · rw [e4]; exact e3
        · exact h1 j (by omega)
      · rw [if_neg e3]
        exact ⟨h1, fun _ => e3⟩
theorem part_ne {A B : Nat → Bool} {n pp : Nat} (hn : n ≤ 100000) (hI : ∀ q, q < pp → fnI A n q = fnI B n q) (hd : ¬ fnI A n pp = fnI B n pp) : partP A B n = nI pp := by
  obtain ⟨h1, h2⟩ := ptN_is (A := A) (B := B) n
  have h3 := ptN_le A B n
  unfold partP
  by_cases e : ptN A B n < n
  · rw [if_pos e]
    have hne := fn_ne hn h1 e (h2 e)
    congr 1
    rcases Nat.lt_trichotomy (cnt A (ptN A B n)) pp with q | q | q
    · exact absurd (hI _ q) hne
    · exact q
    · exact absurd (fn_low hn h1 h3 q).1 hd
  · have e2 : ptN A B n = n := by omega
    rw [e2] at h1
    exact absurd (fnI_c h1) hd
theorem part_eq {A B : Nat → Bool} {n pp : Nat} (hn : n ≤ 100000) (hI : ∀ q, q < pp → fnI A n q = fnI B n q) (hx : fnI A n pp = -1) (hy : fnI B n pp = -1) : partP A B n = -1 := by
  obtain ⟨h1, h2⟩ := ptN_is (A := A) (B := B) n
  have h3 := ptN_le A B n
  unfold partP
  by_cases e : ptN A B n < n
  · have hne := fn_ne hn h1 e (h2 e)
    rcases Nat.lt_trichotomy (cnt A (ptN A B n)) pp with q | q | q
    · exact absurd (hI _ q) hne
    · rw [q] at hne
      exact absurd (hx.trans hy.symm) hne
    · exact absurd hx (fn_low hn h1 h3 q).2
  · rw [if_neg e]
theorem partP_c {A B A' B' : Nat → Bool} {n : Nat} (h1 : ∀ k, k < n → A k = A' k) (h2 : ∀ k, k < n → B k = B' k) : partP A B n = partP A' B' n := by
  have e : ptN A B n = ptN A' B' n := by
    obtain ⟨g1, g2⟩ := ptN_is (A := A) (B := B) n
    have g3 := ptN_le A B n
    rcases Nat.lt_or_ge (ptN A B n) n with q | q
    · refine (ptN_at (fun j hj => ?_) (fun e => g2 q ?_) q).symm
      · rw [← h1 j (by omega), ← h2 j (by omega)]; exact g1 j hj
      · rw [h1 _ q, h2 _ q]; exact e
    · have q2 : ptN A B n = n := by omega
      rw [q2] at g1
      rw [q2]
      exact (ptN_same (fun j hj => by rw [← h1 j hj, ← h2 j hj]; exact g1 j hj)).symm
  unfold partP
  have g3 := ptN_le A' B' n
  rw [e, cnt_c _ (fun k hk => h1 k (by omega))]
/-! answers: what a call tells of a state -/
def inR (v : Int32) (n : Nat) : Bool := decide (0 ≤ v.toInt ∧ v.toInt < n)
def vN (v : Int32) : Nat := v.toInt.toNat
theorem inR_t {j n : Nat} (hj : j < n) (hn : n ≤ 100000) : inR (nI j) n = true := by
  unfold inR
  rw [nI_T (by omega)]
  exact decide_eq_true ⟨by omega, by omega⟩
theorem vN_n {j : Nat} (hj : j ≤ 100000) : vN (nI j) = j := by
  unfold vN
  rw [nI_T hj]
  omega
theorem vN_n' {j : Nat} (hj : j < 2147483648) : vN (nI j) = j := by
  unfold vN
  rw [nI_toInt (by omega)]
  omega
theorem inR_f {v : Int32} {n : Nat} (hn : n ≤ 100000) (h : ∀ j, j < n → v ≠ nI j) : ¬ inR v n = true := by
  intro q
  have q2 := of_decide_eq_true q
  apply h v.toInt.toNat (by omega)
  rw [← Int32.toInt_inj, nI_T (by omega)]
  omega
abbrev aUNK : Int32 := -1000000001
abbrev aOUT : Int32 := -1000000002
abbrev aNOT : Int32 := -1000000003
abbrev aFULL : Int32 := -1000000004
abbrev aNULL : Int32 := -1000000011
abbrev aPLC : Int32 := -1000000012
def verB (s : pS) (j : Nat) (what : Int32) : Int32 := if what = 0 then s.2 1 j else if what = 1 then cvS s j else if what = 2 then s.2 2 j else if what = 3 then s.2 3 j else if what = 4 then nI (nlS s (cvS s j)) else if what = 5 then nI (cnt (fun i => decide (s.2 6 i = nI j)) (s.1 4)) else if what = 6 then nI (cnt (fun i => hasb (s.2 7 i) j) (s.1 4)) else aOUT
def verA (s : pS) (v what : Int32) : Int32 := if inR v (s.1 0) = true then verB s (vN v) what else aUNK
def linB (s : pS) (i : Nat) (what : Int32) : Int32 := if what = 0 then s.2 5 i else if what = 1 then s.2 6 i else if what = 2 then s.2 7 i else if what = 3 then lifeS s i else aOUT
def linA (s : pS) (i what : Int32) : Int32 := if inR i (s.1 4) = true then linB s (vN i) what else aUNK
def txtB (s : pS) (v q : Nat) (what : Int32) : Int32 := if fndN (sdS s (cvS s v)) (s.1 4) q < s.1 4 then (if what = 0 then s.2 5 (fndN (sdS s (cvS s v)) (s.1 4) q) else if what = 1 then s.2 6 (fndN (sdS s (cvS s v)) (s.1 4) q) else nI (fndN (sdS s (cvS s v)) (s.1 4) q)) else -1
def txtA (s : pS) (v i what : Int32) : Int32 := if ¬ v = -1 ∧ ¬ inR v (s.1 0) = true then aUNK else if i < 0 ∨ ¬ inR what 3 = true then aOUT else if v = -1 ∧ s.1 8 = 0 then aNOT else txtB s (if v = -1 then s.1 0 else vN v) (vN i) what
def shaA (s : pS) (v u : Int32) : Int32 := if inR v (s.1 0) = true ∧ inR u (s.1 0) = true then nI (cnt (fun i => decide (s.2 6 i = u) && sdS s (cvS s (vN v)) i) (s.1 4)) else aUNK
def two (s : pS) (u v : Int32) : Bool := inR u (s.1 0) && inR v (s.1 0) && decide (¬ u = v)
def botS (s : pS) (a b : Int32) : Nat := cnt (fun i => sdS s a i && sdS s b i) (s.1 4)
def aliB (s : pS) (a b what : Int32) : Int32 := if what = 0 then nI (botS s a b) else if what = 1 then nI (nlS s a) - nI (botS s a b) else if what = 2 then nI (nlS s b) - nI (botS s a b) else if what = 3 then partP (sdS s a) (sdS s b) (s.1 4) else aOUT
def aliA (s : pS) (u v what : Int32) : Int32 := if two s u v = true then aliB s (cvS s (vN u)) (cvS s (vN v)) what else aUNK
def witA (s : pS) (v u : Int32) : Int32 := if two s v u = true then nI (nlS s (cvS s (vN v) &&& (b1 (vN u) ^^^ (-1)))) else aUNK
def neaA (s : pS) (u v : Int32) : Int32 := if two s u v = true then hiB (eldV (s.2 1) u &&& eldV (s.2 1) v) 24 else aUNK
theorem two_t {s : pS} {a b : Nat} (hn : s.1 0 ≤ 24) (ha : a < s.1 0) (hb : b < s.1 0) (h : ¬ nI a = nI b) : two s (nI a) (nI b) = true := by
  unfold two
  rw [inR_t ha (by omega), inR_t hb (by omega), decide_eq_true h]
  rfl
theorem two_f1 {s : pS} {u v : Int32} (h : ¬ inR u (s.1 0) = true) : ¬ two s u v = true := by
  intro q
  unfold two at q
  rw [Bool.and_eq_true, Bool.and_eq_true] at q
  exact h q.1.1
theorem two_f2 {s : pS} {u v : Int32} (h : ¬ inR v (s.1 0) = true) : ¬ two s u v = true := by
  intro q
  unfold two at q
  rw [Bool.and_eq_true, Bool.and_eq_true] at q
  exact h q.1.2
theorem two_f3 {s : pS} {u v : Int32} (h : u = v) : ¬ two s u v = true := by
  intro q
  unfold two at q
  rw [Bool.and_eq_true] at q
  exact of_decide_eq_true q.2 h
theorem what3_y {x : Int32} (h0 : (0 : Int64) ≤ x.toInt64) (h1 : x.toInt64 ≤ 2) : inR x 3 = true := by
  rw [Int64.le_iff_toInt_le, Int32.toInt_toInt64] at h0 h1
  have e0 : (0 : Int64).toInt = 0 := rfl
  have e2 : (2 : Int64).toInt = 2 := rfl
  exact decide_eq_true ⟨by omega, by omega⟩
theorem what3_n {x : Int32} (h : ¬ ((0 : Int64) ≤ x.toInt64 ∧ x.toInt64 ≤ 2)) : ¬ inR x 3 = true := by
  intro q
  have q2 := of_decide_eq_true q
  apply h
  rw [Int64.le_iff_toInt_le, Int64.le_iff_toInt_le, Int32.toInt_toInt64]
  have e0 : (0 : Int64).toInt = 0 := rfl
  have e2 : (2 : Int64).toInt = 2 := rfl
  omega
/-! states that differ in their lines alone; in the open version's sets; the reference and the class -/
theorem ShM.of {u v : oS} {sj : Nat → Int64} {s s' : pS} {zz : Nat → Nat → Int64} (h : ShM u sj s zz) (hn : ∀ j, j < 4 → s'.1 (50 + j) = s.1 (50 + j)) (e32 : v.2 32 = u.2 32) (e33 : v.2 33 = u.2 33) : ShM v sj s' zz := by
  intro j hj
  rw [hn j hj, e32, e33]
  exact h j hj
theorem ImM.of {u v : oS} {i n q : Nat} {p1 p2 p3 p5 p6 p7 : Nat → Int32} (h : ImM u i n q p1 p2 p3 p5 p6 p7) (e35 : v.2 35 = u.2 35) (e36 : v.2 36 = u.2 36) (e37 : v.2 37 = u.2 37) : ImM v i n q p1 p2 p3 p5 p6 p7 := by
  unfold ImM
  rw [e35, e36, e37]
  exact h
/-- numbers and rows that a step on lines, or on the open version's sets, leaves -/
def stL (s s' : pS) : Prop := (∀ k, k ≠ 4 → s'.1 k = s.1 k) ∧ (∀ k, 8 ≤ k → s'.2 k = s.2 k)
theorem RepM.lines {u v : oS} {sj : Nat → Int64} {s s' : pS} {zz : Nat → Nat → Int64} (h : RepM u sj s zz) (hC : CM v s' (s.1 0 + s.1 8)) (hE : ∀ k, k = 8 ∨ k = 10 ∨ k = 11 ∨ k = 27 → v.1 k = u.1 k) (hF : ∀ k, 8 ≤ k → k ≠ 26 → v.2 k = u.2 k) (hs : stL s s') : RepM v sj s' zz := by
  obtain ⟨-, h8, h10, h9, h11, hH, h27, hm0, hm1, hsh⟩ := h
  obtain ⟨hn, hr⟩ := hs
  refine ⟨?_, ?_, ?_, ?_, ?_, ?_, ?_, ?_, ?_, ?_⟩
  · rw [hn 0 (by omega), hn 8 (by omega)]; exact hC
  · rw [hn 8 (by omega), hE 8 (by omega)]; exact h8
  · rw [hn 10 (by omega), hE 10 (by omega)]; exact h10
  · rw [hn 10 (by omega), hF 9 (by omega) (by omega), hr 9 (by omega)]; exact h9
  · rw [hr 11 (by omega), hE 11 (by omega)]; exact h11
  · intro e
    rw [hn 8 (by omega)] at e
    obtain ⟨a, b, c, d⟩ := hH e
    refine ⟨?_, ?_, ?_, ?_⟩
    · rw [hn 27 (by omega), hE 27 (by omega)]; exact a
    · rw [hn 27 (by omega), hF 28 (by omega) (by omega), hr 28 (by omega)]; exact b
    · rw [hn 27 (by omega), hF 29 (by omega) (by omega), hr 29 (by omega)]; exact c
    · rw [hn 27 (by omega), hF 30 (by omega) (by omega), hr 30 (by omega)]; exact d
  · rw [hE 27 (by omega)]; exact h27
  · rw [hn 40 (by omega), hn 42 (by omega), hr 61 (by omega), hr 62 (by omega), hr 63 (by omega), hr 65 (by omega), hr 66 (by omega), hr 67 (by omega)]
    exact hm0.of (hF 35 (by omega) (by omega)) (hF 36 (by omega) (by omega)) (hF 37 (by omega) (by omega))
  · rw [hn 41 (by omega), hn 43 (by omega), hr 71 (by omega), hr 72 (by omega), hr 73 (by omega), hr 75 (by omega), hr 76 (by omega), hr 77 (by omega)]
    exact hm1.of (hF 35 (by omega) (by omega)) (hF 36 (by omega) (by omega)) (hF 37 (by omega) (by omega))
  · exact hsh.of (fun j hj => hn (50 + j) (by omega)) (hF 32 (by omega) (by omega)) (hF 33 (by omega) (by omega))
theorem pN_1 (s : pS) (k x j : Nat) : (pN s k x).1 j = if j = k then x else s.1 j := rfl
theorem pN_2 (s : pS) (k x j : Nat) : (pN s k x).2 j = s.2 j := rfl
theorem pR_1 (s : pS) (k j : Nat) (g : Nat → Int32) : (pR s k g).1 j = s.1 j := rfl
theorem pR_2 (s : pS) (k j : Nat) (g : Nat → Int32) : (pR s k g).2 j = if j = k then g else s.2 j := rfl
theorem stL_ins (s : pS) (a : Nat) (c : Int32) : stL s (sIns s a c) := by
  refine ⟨fun k h => ?_, fun k h => ?_⟩
  · unfold sIns
    rw [pN_1, if_neg h]
    rfl
  · unfold sIns
    rw [pN_2, pR_2, if_neg (by omega), pR_2, if_neg (by omega), pR_2, if_neg (by omega)]
theorem stL_take (s : pS) (a : Nat) : stL s (sTake s a) := by
  unfold sTake
  split
  · refine ⟨fun k h => ?_, fun k h => ?_⟩
    · rw [pN_1, if_neg h]
      rfl
    · rw [pN_2, pR_2, if_neg (by omega), pR_2, if_neg (by omega), pR_2, if_neg (by omega)]
  · refine ⟨fun k h => rfl, fun k h => ?_⟩
    rw [pR_2, if_neg (by omega)]
theorem stL_inc (s : pS) (v : Nat) : stL s (sInc s v) := by
  refine ⟨fun k h => rfl, fun k h => ?_⟩
  unfold sInc
  rw [pR_2, if_neg (by omega), pR_2, if_neg (by omega)]
theorem stL_exc (s : pS) (v : Nat) : stL s (sExc s v) := by
  refine ⟨fun k h => rfl, fun k h => ?_⟩
  unfold sExc
  rw [pR_2, if_neg (by omega), pR_2, if_neg (by omega)]
theorem IS.lines {s s' : pS} (h : IS s) (hs : stL s s') (h4 : s'.1 4 ≤ 120) (h1 : s'.2 1 = s.2 1) : IS s' := by
  obtain ⟨i1, i2, i3, i4, i5, i6, i7, i8, i9, i10, i11⟩ := h
  obtain ⟨hn, hr⟩ := hs
  refine ⟨?_, h4, ?_, ?_, ?_, ?_, ?_, ?_, ?_, ?_, ?_⟩
  · rw [hn 0 (by omega)]; exact i1
  · rw [hn 8 (by omega)]; exact i3
  · rw [hn 8 (by omega), hn 0 (by omega)]; exact i4
  · rw [hn 8 (by omega), hn 0 (by omega), h1]; exact i5
  · rw [hn 10 (by omega)]; exact i6
  · rw [hn 10 (by omega), hr 9 (by omega)]; exact i7
  · rw [hn 27 (by omega)]; exact i8
  · rw [hn 40 (by omega), hn 42 (by omega), hr 61 (by omega)]; exact i9
  · rw [hn 41 (by omega), hn 43 (by omega), hr 71 (by omega)]; exact i10
  · intro j hj
    rw [hn (50 + j) (by omega)]
    exact i11 j hj
/-- the class: the same -/
theorem RepX.lines {x wn wn' wa w0 w1 rd z : oS} {jj : Nat → Nat → Int64} {s s' : pS} {zz : Nat → Nat → Int64} (h : RepX x wn wa w0 w1 rd z jj s zz) (hC : CW wn' s' (s.1 0 + s.1 8)) (hs : stL s s') (hv : ∀ k, k = 1 ∨ k = 2 ∨ k = 3 → rwE (s'.2 k) (s.2 k) (s.1 0)) (hI : IC s (s.1 0)) : RepX x wn' wa w0 w1 rd z jj s' zz := by
  obtain ⟨-, h7, hH, h10, h9, h11, hm0, hm1, hsh⟩ := h
  obtain ⟨hn, hr⟩ := hs
  refine ⟨?_, ?_, ?_, ?_, ?_, ?_, ?_, ?_, ?_⟩
  · rw [hn 0 (by omega), hn 8 (by omega)]; exact hC
  · rw [hn 8 (by omega)]; exact h7
  · intro e
    rw [hn 8 (by omega)] at e
    obtain ⟨c1, c2, c3, c4, c5, c6, c7, c8, c9⟩ := hH e
    rw [hn 0 (by omega)]
    refine ⟨?_, ?_, c3.trans ?_, c4.trans ?_, c5.trans ?_, ?_, ?_, ?_, ?_⟩
    · show wa.1 0 = nI (s'.1 0)
      rw [hn 0 (by omega)]; exact c1
    · show wa.1 5 = nI (s'.1 27)
      rw [hn 27 (by omega)]; exact c2
    · exact (hv 1 (by omega)).symm
    · exact (hv 2 (by omega)).symm
    · exact (hv 3 (by omega)).symm
    · intro i hi
      refine (c6 i hi).trans ?_
      exact chV_c (by have := hI.1; omega) (hI.2.2.2.le (by omega)) (fun j hj => ⟨(hv 1 (by omega) j (by omega)).symm, (hv 2 (by omega) j (by omega)).symm, (hv 3 (by omega) j (by omega)).symm⟩)
    · show rwE (wa.2 6) (s'.2 28) (s'.1 27)
      rw [hr 28 (by omega), hn 27 (by omega)]; exact c7
    · show rwE (wa.2 7) (s'.2 29) (s'.1 27)
      rw [hr 29 (by omega), hn 27 (by omega)]; exact c8
    · show rwE (wa.2 8) (s'.2 30) (s'.1 27)
      rw [hr 30 (by omega), hn 27 (by omega)]; exact c9
  · rw [hn 10 (by omega)]; exact h10
  · rw [hn 10 (by omega), hr 9 (by omega)]; exact h9
  · rw [hr 11 (by omega)]; exact h11
  · rw [hn 40 (by omega), hn 42 (by omega), hr 61 (by omega), hr 62 (by omega), hr 63 (by omega), hr 65 (by omega), hr 66 (by omega), hr 67 (by omega)]; exact hm0
  · rw [hn 41 (by omega), hn 43 (by omega), hr 71 (by omega), hr 72 (by omega), hr 73 (by omega), hr 75 (by omega), hr 76 (by omega), hr 77 (by omega)]; exact hm1
  · intro j hj
    rw [hn (50 + j) (by omega)]
    exact hsh j hj
/-! calls that change a state: their answers, the state behind -/
def opnA (s : pS) (v : Int32) : Int32 := if ¬ v = -1 ∧ ¬ inR v (s.1 0) = true then aUNK else if ¬ s.1 8 = 0 then aNOT else if s.1 0 = 24 then aFULL else nI (s.1 0)
def opnF (s : pS) (v : Int32) : pS := if ¬ v = -1 ∧ ¬ inR v (s.1 0) = true then s else if ¬ s.1 8 = 0 then s else if s.1 0 = 24 then s else sOpen s v
def incA (s : pS) (v : Int32) : Int32 := if ¬ inR v (s.1 0) = true then aUNK else if s.1 8 = 0 ∨ hasb (cvS s (s.1 0)) (vN v) = true then aNOT else nI (olS (sInc s (vN v)))
def incF (s : pS) (v : Int32) : pS := if ¬ inR v (s.1 0) = true then s else if s.1 8 = 0 ∨ hasb (cvS s (s.1 0)) (vN v) = true then s else sInc s (vN v)
def excA (s : pS) (v : Int32) : Int32 := if ¬ inR v (s.1 0) = true then aUNK else if s.1 8 = 0 ∨ ¬ hasb (cvS s (s.1 0)) (vN v) = true then aNOT else nI (olS (sExc s (vN v)))
def excF (s : pS) (v : Int32) : pS := if ¬ inR v (s.1 0) = true then s else if s.1 8 = 0 ∨ ¬ hasb (cvS s (s.1 0)) (vN v) = true then s else sExc s (vN v)
def putA (s : pS) (i c : Int32) : Int32 := if i < 0 ∨ ¬ sgn c = true then aOUT else if s.1 8 = 0 ∨ olS s < vN i then aNOT else if s.1 4 = 120 then aFULL else nI (posP (sdS s (cvS s (s.1 0))) (s.1 4) (vN i))
def putF (s : pS) (i c : Int32) : pS := if i < 0 ∨ ¬ sgn c = true then s else if s.1 8 = 0 ∨ olS s < vN i then s else if s.1 4 = 120 then s else sPut s (vN i) c
def takA (s : pS) (i : Int32) : Int32 := if i < 0 then aOUT else if s.1 8 = 0 ∨ olS s ≤ vN i then aNOT else s.2 5 (fndN (sdS s (cvS s (s.1 0))) (s.1 4) (vN i))
def takF (s : pS) (i : Int32) : pS := if i < 0 then s else if s.1 8 = 0 ∨ olS s ≤ vN i then s else sTake s (fndN (sdS s (cvS s (s.1 0))) (s.1 4) (vN i))
def clsA (s : pS) : Int32 := if s.1 8 = 0 then aNOT else nI (s.1 0)
def clsF (s : pS) : pS := if s.1 8 = 0 then s else sClose s
def leaA (s : pS) : Int32 := if s.1 8 = 0 then aNOT else nI (olS s)
def leaF (s : pS) : pS := if s.1 8 = 0 then s else sLeave s
def driA (s : pS) (n x : Int32) : Int32 := if ¬ (inR n 25 = true ∧ 0 < n ∧ inR x 1000000 = true ∧ 0 < x) then aOUT else if ¬ s.1 8 = 0 ∨ s.1 0 = 0 then aNOT else nI ((sDrift s (vN n) (vN x)).1 0)
def driF (s : pS) (n x : Int32) : pS := if ¬ (inR n 25 = true ∧ 0 < n ∧ inR x 1000000 = true ∧ 0 < x) then s else if ¬ s.1 8 = 0 ∨ s.1 0 = 0 then s else sDrift s (vN n) (vN x)
/-- sheets -/
def sheA (s1 n : Int32) : Int32 := if ¬ inR s1 4 = true then aUNK else if ¬ inR n 41 = true then aOUT else n
def sheF (s : pS) (s1 n : Int32) : pS := if ¬ inR s1 4 = true then s else if ¬ inR n 41 = true then s else pN s (50 + vN s1) (vN n + 1)
def sheZ (zz : Nat → Nat → Int64) (s1 n : Int32) : Nat → Nat → Int64 := if ¬ inR s1 4 = true then zz else if ¬ inR n 41 = true then zz else fun j k => if j = vN s1 then 0 else zz j k
def refS (s : pS) (s1 i : Int32) (q : Nat) : Int32 := if ¬ inR s1 4 = true then aUNK else if s.1 (50 + vN s1) = 0 then aNULL else if i < 0 ∨ s.1 (50 + vN s1) - 1 < vN i + q then aPLC else 0
def getA (s : pS) (zz : Nat → Nat → Int64) (s1 i : Int32) : Int64 := if refS s s1 i 1 = 0 then zz (vN s1) (vN i) else (refS s s1 i 1).toInt64
def setZ (s : pS) (zz : Nat → Nat → Int64) (s1 i : Int32) (x : Int64) : Nat → Nat → Int64 := if refS s s1 i 1 = 0 then (fun j k => if j = vN s1 ∧ k = vN i then x else zz j k) else zz
def droA (s : pS) (s1 : Int32) : Int32 := if ¬ inR s1 4 = true then aUNK else if s.1 (50 + vN s1) = 0 then aNULL else nI (s.1 (50 + vN s1) - 1)
def droF (s : pS) (s1 : Int32) : pS := if ¬ inR s1 4 = true then s else if s.1 (50 + vN s1) = 0 then s else pN s (50 + vN s1) 0
/-- images -/
def sKeep (s : pS) (i : Nat) : pS := pN (pN (pR (pR (pR (pR (pR (pR s (61 + 10 * i) (s.2 1)) (62 + 10 * i) (s.2 2)) (63 + 10 * i) (s.2 3)) (65 + 10 * i) (s.2 5)) (66 + 10 * i) (s.2 6)) (67 + 10 * i) (s.2 7)) (40 + i) (s.1 0 + 1)) (42 + i) (s.1 4)
def sBack (s : pS) (i : Nat) : pS := pN (pN (pN (pR (pR (pR (pR (pR (pR s 1 (s.2 (61 + 10 * i))) 2 (s.2 (62 + 10 * i))) 3 (s.2 (63 + 10 * i))) 5 (s.2 (65 + 10 * i))) 6 (s.2 (66 + 10 * i))) 7 (s.2 (67 + 10 * i))) 0 (s.1 (40 + i) - 1)) 4 (s.1 (42 + i))) 8 0
def keeA (s : pS) (i : Int32) : Int32 := if ¬ inR i 2 = true then aUNK else if ¬ s.1 8 = 0 then aNOT else nI (s.1 0)
def keeF (s : pS) (i : Int32) : pS := if ¬ inR i 2 = true then s else if ¬ s.1 8 = 0 then s else sKeep s (vN i)
def bacA (s : pS) (i : Int32) : Int32 := if ¬ inR i 2 = true then aUNK else if s.1 (40 + vN i) = 0 then aNOT else nI (s.1 (40 + vN i) - 1)
def bacF (s : pS) (i : Int32) : pS := if ¬ inR i 2 = true then s else if s.1 (40 + vN i) = 0 then s else sBack s (vN i)
/-- the text to be told -/
def feeA (s : pS) (c : Int32) : Int32 := if ¬ inR c 256 = true then aOUT else if s.1 10 = 240 then aFULL else nI (s.1 10 + 1)
def feeF (s : pS) (c : Int32) : pS := if ¬ inR c 256 = true then s else if s.1 10 = 240 then s else pN (pR s 9 (upd (s.2 9) (s.1 10) c)) 10 (s.1 10 + 1)
def sWov (s : pS) (t : pS) : pS := pN (pN (pN (pN (pN (pN (pR (pR (pR (pR (pR (pR (pR s 1 (t.2 16)) 2 (t.2 17)) 3 (t.2 18)) 5 (t.2 20)) 6 (t.2 21)) 7 (t.2 22)) 11 (fun _ => -1)) 0 (t.1 15)) 4 (t.1 19)) 8 0) 10 0) 40 0) 41 0
def sBad (s : pS) (p : Nat) : pS := pN (pR s 11 (fun _ => nI p)) 10 0
def wovF (s : pS) (r : iR) : pS := if r.1 = 0 then sWov s r.2.2 else sBad s r.2.1
def wovA (r : iR) : Int32 := if r.1 = 0 then nI (r.2.2.1 15) else (-10 : Int32) - nI r.1
/-! good states behind the calls -/
theorem inR_e {v : Int32} {n : Nat} (hn : n ≤ 1000000) (h : inR v n = true) : vN v < n ∧ v = nI (vN v) := by
  have q := of_decide_eq_true h
  unfold vN
  refine ⟨by omega, ?_⟩
  rw [← Int32.toInt_inj, nI_toInt (by omega)]
  omega
theorem IS_ins {s : pS} {a : Nat} {c : Int32} (h : IS s) (h4 : s.1 4 < 120) : IS (sIns s a c) := h.lines (stL_ins s a c) h4 rfl
theorem sTake_4 (s : pS) (a : Nat) (h : s.1 4 ≤ 120) : (sTake s a).1 4 ≤ 120 := by
  unfold sTake
  split
  · show s.1 4 - 1 ≤ 120
    omega
  · exact h
theorem sTake_1 (s : pS) (a k : Nat) (hk : k = 1 ∨ k = 2 ∨ k = 3) : (sTake s a).2 k = s.2 k := by
  rcases hk with rfl | rfl | rfl <;> (unfold sTake; split <;> rfl)
theorem IS_take {s : pS} {a : Nat} (h : IS s) : IS (sTake s a) := h.lines (stL_take s a) (sTake_4 s a h.2.1) (sTake_1 s a 1 (by omega))
theorem IS_inc {s : pS} {v : Nat} (h : IS s) : IS (sInc s v) := h.lines (stL_inc s v) h.2.1 rfl
theorem IS_exc {s : pS} {v : Nat} (h : IS s) : IS (sExc s v) := h.lines (stL_exc s v) h.2.1 rfl
theorem IS_lea {s : pS} (h : IS s) : IS (sLeave s) := by
  obtain ⟨i1, i2, i3, i4, i5, i6, i7, i8, i9, i10, i11⟩ := h
  exact ⟨i1, i8, Nat.zero_le _, fun e => absurd e (show ¬ (0 : Nat) = 1 by decide), parOK.le i5 (show s.1 0 + 0 ≤ s.1 0 + s.1 8 by omega), i6, i7, i8, i9, i10, f41 i11 rfl rfl rfl rfl⟩
theorem sLine_n (s : pS) (x : Nat) : (sLine s x).1.1 0 = s.1 0 ∧ (sLine s x).1.1 8 = s.1 8 := by
  unfold sLine
  split
  · split
    · exact ⟨(stL_take s _).1 0 (by decide), (stL_take s _).1 8 (by decide)⟩
    · exact ⟨rfl, rfl⟩
  · split
    · exact ⟨rfl, rfl⟩
    · exact ⟨rfl, rfl⟩
theorem IS_line {s : pS} {x : Nat} (h : IS s) : IS (sLine s x).1 := by
  unfold sLine
  split
  · split
    · exact IS_take h
    · exact h
  · split
    · exact h
    · exact IS_ins h (by have := h.2.1; omega)
theorem lot1_lt (x : Nat) : lot1 x < 2147483647 := Nat.mod_lt _ (by omega)
theorem sLine_x (s : pS) (x : Nat) : (sLine s x).2.1 < 2147483647 := by
  unfold sLine
  split
  · split
    · exact lot1_lt _
    · exact lot1_lt _
  · split
    · exact lot1_lt _
    · exact lot1_lt _
theorem sLines_I : ∀ (k : Nat) (t : pS × Nat × Bool), IS t.1 → t.2.1 < 2147483647 → IS (sLines k t).1 ∧ (sLines k t).1.1 0 = t.1.1 0 ∧ (sLines k t).1.1 8 = t.1.1 8 ∧ (sLines k t).2.1 < 2147483647
  | 0, t, h, hx => ⟨h, rfl, rfl, hx⟩
  | k + 1, t, h, hx => by
    rw [sLines]
    split
    · obtain ⟨a, b, c, d⟩ := sLines_I k (sLine t.1 t.2.1) (IS_line h) (sLine_x _ _)
      exact ⟨a, b.trans (sLine_n _ _).1, c.trans (sLine_n _ _).2, d⟩
    · exact ⟨h, rfl, rfl, hx⟩
theorem sVer_I {t : pS × Nat × Bool} (h : IS t.1) (ho : t.1.1 8 = 0) (h0 : 0 < t.1.1 0) (h24 : t.1.1 0 < 24) : IS (sVer t).1 ∧ (sVer t).1.1 8 = 0 ∧ (sVer t).1.1 0 = t.1.1 0 + 1 ∧ (sVer t).2.1 < 2147483647 := by
  have hO := IS_opn (x := nI (lot1 t.2.1 % t.1.1 0)) h ho h24 (Or.inr ⟨_, Nat.mod_lt _ h0, rfl⟩)
  obtain ⟨a, b, c, d⟩ := sLines_I 3 (sOpen t.1 (nI (lot1 t.2.1 % t.1.1 0)), lot1 t.2.1, true) hO (lot1_lt _)
  exact ⟨IS_cls a (c.trans rfl), rfl, congrArg (fun q => q + 1) (b.trans rfl), d⟩
theorem sVers_I : ∀ (k : Nat) (t : pS × Nat × Bool), IS t.1 → t.1.1 8 = 0 → 0 < t.1.1 0 → IS (sVers k t).1 ∧ (sVers k t).1.1 8 = 0
  | 0, t, h, ho, _ => ⟨h, ho⟩
  | k + 1, t, h, ho, h0 => by
    rw [sVers]
    split
    · rename_i hc
      obtain ⟨a, b, c, -⟩ := sVer_I h ho h0 hc.2
      exact sVers_I k (sVer t) a b (by rw [c]; omega)
    · exact ⟨h, ho⟩
/-- what lots leave -/
def stD (s t : pS) : Prop := (∀ k, k ≠ 0 → k ≠ 4 → k ≠ 8 → k ≠ 27 → t.1 k = s.1 k) ∧ (∀ k, 8 ≤ k → k ≠ 28 → k ≠ 29 → k ≠ 30 → t.2 k = s.2 k)
theorem stD.refl (s : pS) : stD s s := ⟨fun _ _ _ _ _ => rfl, fun _ _ _ _ _ => rfl⟩
theorem stD.trans {s t r : pS} (h : stD s t) (h2 : stD t r) : stD s r := ⟨fun k a b c d => (h2.1 k a b c d).trans (h.1 k a b c d), fun k a b c d => (h2.2 k a b c d).trans (h.2 k a b c d)⟩
theorem stL.d {s t : pS} (h : stL s t) : stD s t := ⟨fun k _ b _ _ => h.1 k b, fun k a _ _ _ => h.2 k a⟩
theorem stD_line (s : pS) (x : Nat) : stD s (sLine s x).1 := by
  unfold sLine
  split
  · split
    · exact (stL_take s _).d
    · exact stD.refl s
  · split
    · exact stD.refl s
    · exact (stL_ins s _ _).d
theorem stD_lines : ∀ (k : Nat) (t : pS × Nat × Bool), stD t.1 (sLines k t).1
  | 0, t => stD.refl _
  | k + 1, t => by
    rw [sLines]
    split
    · exact (stD_line _ _).trans (stD_lines k _)
    · exact stD.refl _
theorem stD_open (s : pS) (x : Int32) : stD s (sOpen s x) := by
  refine ⟨fun k a b c d => ?_, fun k a b c d => ?_⟩
  · unfold sOpen
    rw [pN_1, if_neg c, pN_1, if_neg d]
    rfl
  · unfold sOpen
    rw [pN_2, pN_2, pR_2, if_neg (by omega), pR_2, if_neg (by omega), pR_2, if_neg (by omega), pR_2, if_neg d, pR_2, if_neg c, pR_2, if_neg b]
theorem stD_close (s : pS) : stD s (sClose s) := by
  refine ⟨fun k a b c d => ?_, fun k a b c d => rfl⟩
  unfold sClose
  rw [pN_1, if_neg a, pN_1, if_neg c]
theorem stD_ver (t : pS × Nat × Bool) : stD t.1 (sVer t).1 := ((stD_open _ _).trans (stD_lines 3 (sOpen t.1 (nI (lot1 t.2.1 % t.1.1 0)), lot1 t.2.1, true))).trans (stD_close _)
theorem stD_vers : ∀ (k : Nat) (t : pS × Nat × Bool), stD t.1 (sVers k t).1
  | 0, t => stD.refl _
  | k + 1, t => by
    rw [sVers]
    split
    · exact (stD_ver t).trans (stD_vers k _)
    · exact stD.refl _
theorem IS_sh {s : pS} {j x : Nat} (h : IS s) (hx : x ≤ 41) : IS (pN s (50 + j) x) := by
  obtain ⟨i1, i2, i3, i4, i5, i6, i7, i8, i9, i10, i11⟩ := h
  have e : ∀ k, k < 50 → (pN s (50 + j) x).1 k = s.1 k := fun k hk => by rw [pN_1, if_neg (by omega)]
  unfold IS
  rw [e 0 (by omega), e 4 (by omega), e 8 (by omega), e 10 (by omega), e 27 (by omega), e 40 (by omega), e 41 (by omega), e 42 (by omega), e 43 (by omega)]
  refine ⟨i1, i2, i3, i4, i5, i6, i7, i8, i9, i10, fun q hq => ?_⟩
  rw [pN_1]
  split
  · exact hx
  · exact i11 q hq
theorem IS_kee {s : pS} {i : Nat} (h : IS s) (ho : s.1 8 = 0) (hi : i < 2) : IS (sKeep s i) := by
  obtain ⟨i1, i2, i3, i4, i5, i6, i7, i8, i9, i10, i11⟩ := h
  have hp : parOK (s.2 1) (s.1 0 + 1 - 1) := parOK.le i5 (by omega)
  rcases (show i = 0 ∨ i = 1 by omega) with rfl | rfl
  · exact ⟨i1, i2, i3, i4, i5, i6, i7, i8, ⟨Nat.succ_le_succ i1, i2, hp⟩, i10, f41 i11 rfl rfl rfl rfl⟩
  · exact ⟨i1, i2, i3, i4, i5, i6, i7, i8, i9, ⟨Nat.succ_le_succ i1, i2, hp⟩, f41 i11 rfl rfl rfl rfl⟩
theorem IS_bac {s : pS} {i : Nat} (h : IS s) (hi : i < 2) : IS (sBack s i) := by
  obtain ⟨i1, i2, i3, i4, i5, i6, i7, i8, i9, i10, i11⟩ := h
  rcases (show i = 0 ∨ i = 1 by omega) with rfl | rfl
  · exact ⟨by show s.1 40 - 1 ≤ 24; have := i9.1; omega, i9.2.1, Nat.zero_le _, fun e => absurd e (show ¬ (0 : Nat) = 1 by decide), i9.2.2, i6, i7, i8, i9, i10, f41 i11 rfl rfl rfl rfl⟩
  · exact ⟨by show s.1 41 - 1 ≤ 24; have := i10.1; omega, i10.2.1, Nat.zero_le _, fun e => absurd e (show ¬ (0 : Nat) = 1 by decide), i10.2.2, i6, i7, i8, i9, i10, f41 i11 rfl rfl rfl rfl⟩
theorem IS_fee {s : pS} {c : Int32} (h : IS s) (hc : ∃ j, j ≤ 255 ∧ c = nI j) (h10 : s.1 10 < 240) : IS (pN (pR s 9 (upd (s.2 9) (s.1 10) c)) 10 (s.1 10 + 1)) := by
  obtain ⟨i1, i2, i3, i4, i5, i6, i7, i8, i9, i10, i11⟩ := h
  exact ⟨i1, i2, i3, i4, i5, h10, upd_all (Q := fun q => ∃ j, j ≤ 255 ∧ q = nI j) i7 hc, i8, i9, i10, f41 i11 rfl rfl rfl rfl⟩
theorem IS_wov {s t : pS} (h : IS s) (h15 : t.1 15 ≤ 24) (h19 : t.1 19 ≤ 120) (hp : parOK (t.2 16) (t.1 15)) : IS (sWov s t) := by
  obtain ⟨i1, i2, i3, i4, i5, i6, i7, i8, i9, i10, i11⟩ := h
  exact ⟨h15, h19, Nat.zero_le _, fun e => absurd e (show ¬ (0 : Nat) = 1 by decide), hp, Nat.zero_le _, fun i hi => absurd hi (Nat.not_lt_zero i), i8, ⟨Nat.zero_le _, i9.2.1, fun i hi => absurd hi (Nat.not_lt_zero i)⟩, ⟨Nat.zero_le _, i10.2.1, fun i hi => absurd hi (Nat.not_lt_zero i)⟩, f41 i11 rfl rfl rfl rfl⟩
theorem IS_bad {s : pS} {p : Nat} (h : IS s) : IS (sBad s p) := by
  obtain ⟨i1, i2, i3, i4, i5, i6, i7, i8, i9, i10, i11⟩ := h
  exact ⟨i1, i2, i3, i4, i5, Nat.zero_le _, fun i hi => absurd hi (Nat.not_lt_zero i), i8, i9, i10, f41 i11 rfl rfl rfl rfl⟩
theorem IS_opnF {s : pS} {v : Int32} (h : IS s) : IS (opnF s v) := by
  unfold opnF
  split
  · exact h
  · rename_i h1
    split
    · exact h
    · rename_i h2
      split
      · exact h
      · rename_i h3
        refine IS_opn h (by omega) (by have := h.1; omega) ?_
        by_cases e : v = -1
        · exact Or.inl e
        · have h4 : inR v (s.1 0) = true := Classical.byContradiction (fun q => h1 ⟨e, q⟩)
          have h5 := inR_e (by have := h.1; omega) h4
          exact Or.inr ⟨vN v, h5.1, h5.2⟩
theorem IS_incF {s : pS} {v : Int32} (h : IS s) : IS (incF s v) := by
  unfold incF
  split
  · exact h
  · split
    · exact h
    · exact IS_inc h
theorem IS_excF {s : pS} {v : Int32} (h : IS s) : IS (excF s v) := by
  unfold excF
  split
  · exact h
  · split
    · exact h
    · exact IS_exc h
theorem IS_putF {s : pS} {i c : Int32} (h : IS s) : IS (putF s i c) := by
  unfold putF
  split
  · exact h
  · split
    · exact h
    · split
      · exact h
      · exact IS_ins h (by have := h.2.1; omega)
theorem IS_takF {s : pS} {i : Int32} (h : IS s) : IS (takF s i) := by
  unfold takF
  split
  · exact h
  · split
    · exact h
    · exact IS_take h
theorem IS_clsF {s : pS} (h : IS s) : IS (clsF s) := by
  unfold clsF
  split
  · exact h
  · exact IS_cls h (by have := h.2.2.1; omega)
theorem IS_leaF {s : pS} (h : IS s) : IS (leaF s) := by
  unfold leaF
  split
  · exact h
  · exact IS_lea h
theorem IS_driF {s : pS} {n x : Int32} (h : IS s) : IS (driF s n x) := by
  unfold driF
  split
  · exact h
  · split
    · exact h
    · exact (sVers_I _ (s, vN x, true) h (show s.1 8 = 0 by omega) (show 0 < s.1 0 by omega)).1
theorem IS_sheF {s : pS} {a b : Int32} (h : IS s) : IS (sheF s a b) := by
  unfold sheF
  split
  · exact h
  · rename_i h1
    split
    · exact h
    · rename_i h2
      have h3 := inR_e (by omega) (Classical.not_not.mp h2)
      exact IS_sh h (by omega)
theorem IS_droF {s : pS} {a : Int32} (h : IS s) : IS (droF s a) := by
  unfold droF
  split
  · exact h
  · split
    · exact h
    · exact IS_sh h (by omega)
theorem IS_keeF {s : pS} {i : Int32} (h : IS s) : IS (keeF s i) := by
  unfold keeF
  split
  · exact h
  · rename_i h1
    split
    · exact h
    · exact IS_kee h (by omega) (inR_e (by omega) (Classical.not_not.mp h1)).1
theorem IS_bacF {s : pS} {i : Int32} (h : IS s) : IS (bacF s i) := by
  unfold bacF
  split
  · exact h
  · rename_i h1
    split
    · exact h
    · exact IS_bac h (inR_e (by omega) (Classical.not_not.mp h1)).1
theorem IS_feeF {s : pS} {c : Int32} (h : IS s) : IS (feeF s c) := by
  unfold feeF
  split
  · exact h
  · rename_i h1
    split
    · exact h
    · have h3 := inR_e (by omega) (Classical.not_not.mp h1)
      exact IS_fee h ⟨vN c, by omega, h3.2⟩ (by have := h.2.2.2.2.2.1; omega)
theorem nI_z {a : Nat} (ha : a ≤ 100000) (h : nI a = 0) : a = 0 := nI_inj5 (b := 0) ha (by omega) h
theorem and_tt {a b : Bool} (ha : a = true) (hb : b = true) : (a && b) = true := by rw [ha, hb]; rfl
theorem and_f1 {a b : Bool} (h : a = false) : (a && b) = false := by rw [h]; rfl
theorem and_f2 {a b : Bool} (h : b = false) : (a && b) = false := by rw [h]; exact Bool.and_false a
/-! the reference behind the calls -/
abbrev xT : Type := oS × oS × oS × oS × oS × oS × oS × oS × (Nat → Nat → Int64) × Int64
def RpX (v : xT) (s : pS) (zz : Nat → Nat → Int64) : Prop := RepX v.1 v.2.1 v.2.2.1 v.2.2.2.1 v.2.2.2.2.1 v.2.2.2.2.2.1 v.2.2.2.2.2.2.2.1 v.2.2.2.2.2.2.2.2.1 s zz
theorem cvO {u : oS} {s : pS} (h : CM u s (s.1 0 + s.1 8)) (hI : IS s) (ho : s.1 8 = 1) : chV (u.2 1) (u.2 2) (u.2 3) (nI (s.1 0)) = cvS s (s.1 0) := h.cv hI.ic (by omega)
theorem RepM_put {u : oS} {sj : Nat → Int64} {s : pS} {zz : Nat → Nat → Int64} {g f5 f6 f7 : Nat → Int32} {q : Nat} {c : Int32} (h : RepM u sj s zz) (hI : IS s) (ho : s.1 8 = 1)
    (h5 : rwE f5 (insP (u.2 5) (posP (sdb (u.2 6) (u.2 7) (chV (u.2 1) (u.2 2) (u.2 3) (nI (s.1 0)))) (s.1 4) q) c) (s.1 4 + 1))
    (h6 : rwE f6 (insP (u.2 6) (posP (sdb (u.2 6) (u.2 7) (chV (u.2 1) (u.2 2) (u.2 3) (nI (s.1 0)))) (s.1 4) q) (nI (s.1 0))) (s.1 4 + 1))
    (h7 : rwE f7 (insP (u.2 7) (posP (sdb (u.2 6) (u.2 7) (chV (u.2 1) (u.2 2) (u.2 3) (nI (s.1 0)))) (s.1 4) q) (nI 0)) (s.1 4 + 1)) : RepM (oI (ln3 (oA u 26 g) f5 f6 f7) 4 (nI (s.1 4 + 1))) sj (sPut s q c) zz := by
  have hC := h.1
  have e : posP (sdb (u.2 6) (u.2 7) (chV (u.2 1) (u.2 2) (u.2 3) (nI (s.1 0)))) (s.1 4) q = posP (sdS s (cvS s (s.1 0))) (s.1 4) q := by
    rw [cvO hC hI ho]
    exact posP_c (hC.sd _)
  rw [e] at h5 h6 h7
  refine h.lines (s' := sPut s q c) (CM.ins hC (posP_le _ _ _) rfl rfl rfl rfl rfl h5 h6 h7) ?_ ?_ (stL_ins s _ c)
  · rintro k (rfl | rfl | rfl | rfl) <;> rfl
  · intro k hk h26
    unfold ln3
    rw [oI_2, oA_2, if_neg (by omega), oA_2, if_neg (by omega), oA_2, if_neg (by omega), oA_2, if_neg h26]
theorem RepM_tk {u : oS} {sj : Nat → Int64} {s : pS} {zz : Nat → Nat → Int64} {a : Nat} (h : RepM u sj s zz) (ha : a < s.1 4) (hb : ¬ u.2 6 a = nI (s.1 0)) : RepM (oA u 7 (upd (u.2 7) a (u.2 7 a ||| b1 (s.1 0)))) sj (sTake s a) zz := by
  have hC := h.1
  have hb2 : ¬ s.2 6 a = nI (s.1 0) := by rw [← hC.2.2.2.2.2.2.1 a ha]; exact hb
  refine h.lines (s' := sTake s a) (hC.tk ha hb2) (fun _ _ => rfl) (fun k hk _ => ?_) (stL_take s a)
  rw [oA_2, if_neg (by omega)]
theorem RepM_del {u : oS} {sj : Nat → Int64} {s : pS} {zz : Nat → Nat → Int64} {a : Nat} {f5 f6 f7 : Nat → Int32} (h : RepM u sj s zz) (ha : a < s.1 4) (hb : u.2 6 a = nI (s.1 0)) (h5 : rwE f5 (delP (u.2 5) a) (s.1 4 - 1)) (h6 : rwE f6 (delP (u.2 6) a) (s.1 4 - 1)) (h7 : rwE f7 (delP (u.2 7) a) (s.1 4 - 1)) : RepM (oI (ln3 u f5 f6 f7) 4 (nI (s.1 4 - 1))) sj (sTake s a) zz := by
  have hC := h.1
  have hb2 : s.2 6 a = nI (s.1 0) := by rw [← hC.2.2.2.2.2.2.1 a ha]; exact hb
  refine h.lines (s' := sTake s a) (hC.del hb2 rfl rfl rfl rfl rfl h5 h6 h7) ?_ ?_ (stL_take s a)
  · rintro k (rfl | rfl | rfl | rfl) <;> rfl
  · intro k hk _
    unfold ln3
    rw [oI_2, oA_2, if_neg (by omega), oA_2, if_neg (by omega), oA_2, if_neg (by omega)]
theorem RepM_sh {u : oS} {sj sj' : Nat → Int64} {s : pS} {zz zz' : Nat → Nat → Int64} {j x : Nat} {f g : Nat → Int32} (h : RepM u sj s zz) (hz : ShM (oA (oA u 32 f) 33 g) sj' (pN s (50 + j) x) zz') (hj : j < 4) : RepM (oA (oA u 32 f) 33 g) sj' (pN s (50 + j) x) zz' := by
  obtain ⟨hC, h8, h10, h9, h11, hH, h27, hm0, hm1, hs⟩ := h
  rcases (show j = 0 ∨ j = 1 ∨ j = 2 ∨ j = 3 by omega) with rfl | rfl | rfl | rfl <;> exact ⟨hC, h8, h10, h9, h11, hH, h27, hm0, hm1, hz⟩
theorem RepM_dr {u : oS} {sj : Nat → Int64} {s : pS} {zz : Nat → Nat → Int64} {j x : Nat} {f : Nat → Int32} (h : RepM u sj s zz) (hz : ShM (oA u 32 f) sj (pN s (50 + j) x) zz) (hj : j < 4) : RepM (oA u 32 f) sj (pN s (50 + j) x) zz := by
  obtain ⟨hC, h8, h10, h9, h11, hH, h27, hm0, hm1, hs⟩ := h
  rcases (show j = 0 ∨ j = 1 ∨ j = 2 ∨ j = 3 by omega) with rfl | rfl | rfl | rfl <;> exact ⟨hC, h8, h10, h9, h11, hH, h27, hm0, hm1, hz⟩
theorem RepM_zz {u : oS} {sj sj' : Nat → Int64} {s : pS} {zz zz' : Nat → Nat → Int64} (h : RepM u sj s zz) (hz : ShM u sj' s zz') : RepM u sj' s zz' := by
  obtain ⟨hC, h8, h10, h9, h11, hH, h27, hm0, hm1, hs⟩ := h
  exact ⟨hC, h8, h10, h9, h11, hH, h27, hm0, hm1, hz⟩
/-- sheets: a new one, one that goes, numbers -/
theorem ShM_lay {u : oS} {sj ss : Nat → Int64} {s : pS} {zz : Nat → Nat → Int64} {j q : Nat} (h : ShM u sj s zz) (hI : IS s) (hj : j < 4) (hq : q ≤ 40) (h0 : ∀ k, k < q → ss (40 * j + k) = 0) (h1 : ∀ k, (k < 40 * j ∨ 40 * j + q ≤ k) → ss k = sj k) : ShM (oA (oA u 32 (upd (u.2 32) j (nI 1))) 33 (upd (u.2 33) j (nI q))) ss (pN s (50 + j) (q + 1)) (fun a b => if a = j then 0 else zz a b) := by
  intro a ha
  have i11 := hI.2.2.2.2.2.2.2.2.2.2 a ha
  by_cases e : a = j
  · subst e
    refine Or.inr ⟨?_, ?_, ?_, fun k hk => ?_⟩
    · rw [pN_1, if_pos rfl]; omega
    · show ¬ upd (u.2 32) a (nI 1) a = 0
      rw [pk_us]; decide
    · show upd (u.2 33) a (nI q) a = _
      rw [pk_us, pN_1, if_pos rfl]; rfl
    · rw [pN_1, if_pos rfl] at hk
      show ss (40 * a + k) = if a = a then 0 else zz a k
      rw [if_pos rfl]
      exact h0 k (by omega)
  · have e2 : (pN s (50 + j) (q + 1)).1 (50 + a) = s.1 (50 + a) := by rw [pN_1, if_neg (by omega)]
    rw [e2]
    rcases h a ha with ⟨g1, g2, g3⟩ | ⟨g1, g2, g3, g4⟩
    · refine Or.inl ⟨g1, ?_, ?_⟩
      · show upd (u.2 32) j (nI 1) a = 0
        rw [pk_un e]; exact g2
      · show ∃ q', q' ≤ 40 ∧ upd (u.2 33) j (nI q) a = nI q'
        rw [pk_un e]; exact g3
    · refine Or.inr ⟨g1, ?_, ?_, fun k hk => ?_⟩
      · show ¬ upd (u.2 32) j (nI 1) a = 0
        rw [pk_un e]; exact g2
      · show upd (u.2 33) j (nI q) a = _
        rw [pk_un e]; exact g3
      · show ss (40 * a + k) = if a = j then 0 else zz a k
        rw [if_neg e, h1 _ (by omega)]
        exact g4 k hk
theorem ShM_dro {u : oS} {sj : Nat → Int64} {s : pS} {zz : Nat → Nat → Int64} {j : Nat} (h : ShM u sj s zz) (hI : IS s) (hj : j < 4) : ShM (oA u 32 (upd (u.2 32) j (nI 0))) sj (pN s (50 + j) 0) zz := by
  intro a ha
  have i11 := hI.2.2.2.2.2.2.2.2.2.2 a ha
  by_cases e : a = j
  · subst e
    refine Or.inl ⟨?_, ?_, ?_⟩
    · rw [pN_1, if_pos rfl]
    · show upd (u.2 32) a (nI 0) a = 0
      rw [pk_us]; rfl
    · rcases h a ha with ⟨-, -, g3⟩ | ⟨g1, -, g3, -⟩
      · exact g3
      · exact ⟨s.1 (50 + a) - 1, by omega, g3⟩
  · have e2 : (pN s (50 + j) 0).1 (50 + a) = s.1 (50 + a) := by rw [pN_1, if_neg (by omega)]
    rw [e2]
    rcases h a ha with ⟨g1, g2, g3⟩ | ⟨g1, g2, g3, g4⟩
    · refine Or.inl ⟨g1, ?_, g3⟩
      show upd (u.2 32) j (nI 0) a = 0
      rw [pk_un e]; exact g2
    · refine Or.inr ⟨g1, ?_, g3, g4⟩
      show ¬ upd (u.2 32) j (nI 0) a = 0
      rw [pk_un e]; exact g2
theorem ShM_num {u : oS} {sj ss : Nat → Int64} {s : pS} {zz zy : Nat → Nat → Int64} (h : ShM u sj s zz) (he : ∀ a k, a < 4 → 0 < s.1 (50 + a) → k < s.1 (50 + a) - 1 → sj (40 * a + k) = zz a k → ss (40 * a + k) = zy a k) : ShM u ss s zy := by
  intro a ha
  rcases h a ha with ⟨g1, g2, g3⟩ | ⟨g1, g2, g3, g4⟩
  · exact Or.inl ⟨g1, g2, g3⟩
  · exact Or.inr ⟨g1, g2, g3, fun k hk => he a k ha g1 hk (g4 k hk)⟩
theorem ShX_lay {z : oS} {jj jk : Nat → Nat → Int64} {s : pS} {zz : Nat → Nat → Int64} {j q : Nat} (h : ShX z jj s zz) (hj : j < 4) (hq : q ≤ 40) (h0 : ∀ k, k < 40 → jk j k = 0) (h1 : ∀ a, a ≠ j → jk a = jj a) : ShX (oA z 1 (upd (z.2 1) j (nI q))) jk (pN s (50 + j) (q + 1)) (fun a b => if a = j then 0 else zz a b) := by
  intro a ha
  by_cases e : a = j
  · subst e
    refine Or.inr ⟨?_, ?_, fun k hk => ?_⟩
    · rw [pN_1, if_pos rfl]; omega
    · show upd (z.2 1) a (nI q) a = _
      rw [pk_us, pN_1, if_pos rfl]; rfl
    · rw [pN_1, if_pos rfl] at hk
      show jk a k = if a = a then 0 else zz a k
      rw [if_pos rfl]
      exact h0 k (by omega)
  · have e2 : (pN s (50 + j) (q + 1)).1 (50 + a) = s.1 (50 + a) := by rw [pN_1, if_neg (by omega)]
    rw [e2]
    rcases h a ha with ⟨g1, g2⟩ | ⟨g1, g2, g3⟩
    · refine Or.inl ⟨g1, ?_⟩
      show upd (z.2 1) j (nI q) a = -1
      rw [pk_un e]; exact g2
    · refine Or.inr ⟨g1, ?_, fun k hk => ?_⟩
      · show upd (z.2 1) j (nI q) a = _
        rw [pk_un e]; exact g2
      · show jk a k = if a = j then 0 else zz a k
        rw [if_neg e, h1 a e]
        exact g3 k hk
theorem ShX_dro {z : oS} {jj : Nat → Nat → Int64} {s : pS} {zz : Nat → Nat → Int64} {j : Nat} (h : ShX z jj s zz) (hj : j < 4) : ShX (oA z 1 (upd (z.2 1) j (-1))) jj (pN s (50 + j) 0) zz := by
  intro a ha
  by_cases e : a = j
  · subst e
    refine Or.inl ⟨?_, ?_⟩
    · rw [pN_1, if_pos rfl]
    · show upd (z.2 1) a (-1) a = -1
      rw [pk_us]
  · have e2 : (pN s (50 + j) 0).1 (50 + a) = s.1 (50 + a) := by rw [pN_1, if_neg (by omega)]
    rw [e2]
    rcases h a ha with ⟨g1, g2⟩ | ⟨g1, g2, g3⟩
    · refine Or.inl ⟨g1, ?_⟩
      show upd (z.2 1) j (-1) a = -1
      rw [pk_un e]; exact g2
    · refine Or.inr ⟨g1, ?_, g3⟩
      show upd (z.2 1) j (-1) a = _
      rw [pk_un e]; exact g2
theorem ShX_num {z : oS} {jj jk : Nat → Nat → Int64} {s : pS} {zz zy : Nat → Nat → Int64} (h : ShX z jj s zz) (he : ∀ a k, a < 4 → 0 < s.1 (50 + a) → k < s.1 (50 + a) - 1 → jj a k = zz a k → jk a k = zy a k) : ShX z jk s zy := by
  intro a ha
  rcases h a ha with ⟨g1, g2⟩ | ⟨g1, g2, g3⟩
  · exact Or.inl ⟨g1, g2⟩
  · exact Or.inr ⟨g1, g2, fun k hk => he a k ha g1 hk (g3 k hk)⟩
/-! the class behind the calls -/
section CLS
variable {x wn wa w0 w1 rd z wn' wa' w0' w1' rd' z' x' : oS} {jj jk : Nat → Nat → Int64} {s : pS} {zz zy : Nat → Nat → Int64}
theorem RepX.sh {j n : Nat} (h : RepX x wn wa w0 w1 rd z jj s zz) (hz : ShX z' jk (pN s (50 + j) n) zy) (hj : j < 4) : RepX x wn wa w0 w1 rd z' jk (pN s (50 + j) n) zy := by
  obtain ⟨hC, h7, hH, h10, h9, h11, hm0, hm1, hs⟩ := h
  rcases (show j = 0 ∨ j = 1 ∨ j = 2 ∨ j = 3 by omega) with rfl | rfl | rfl | rfl <;> exact ⟨hC, h7, hH, h10, h9, h11, hm0, hm1, hz⟩
theorem RepX.zn (h : RepX x wn wa w0 w1 rd z jj s zz) (hz : ShX z' jk s zy) : RepX x wn wa w0 w1 rd z' jk s zy := by
  obtain ⟨hC, h7, hH, h10, h9, h11, hm0, hm1, hs⟩ := h
  exact ⟨hC, h7, hH, h10, h9, h11, hm0, hm1, hz⟩
theorem CW_lea {x1 : Int32} (h : CW wn s (s.1 0)) (hc : cpW wn wa') (hI : IS s) : CW wa' (sLeave (sOpen s x1)) (s.1 0) := by
  have hic := hI.ic
  have h2 := h.bec hc (by have := hI.1; omega) hI.2.1
  obtain ⟨c1, c2, c3, c4, c5, c6, c7, c8, c9⟩ := h2
  refine ⟨c1, c2, c3.trans (fun i hi => (pk_un (by omega)).symm), c4.trans (fun i hi => (pk_un (by omega)).symm), c5.trans (fun i hi => (pk_un (by omega)).symm), fun i hi => (c6 i hi).trans ?_, c7, c8, c9⟩
  exact (cvS_open (x := x1) ⟨hI.1, hI.1, hI.2.1, hic.2.2.2.le (by omega)⟩ hi).symm
theorem RepX_opn {x1 : Int32} (h : RepX x wn wa w0 w1 rd z jj s zz) (hI : IS s) (ho : s.1 8 = 0) (hv : s.1 0 < 24) (hx : x1 = -1 ∨ ∃ t, t < s.1 0 ∧ x1 = nI t) (hc : cpW wn wa') : RepX (oI x 7 (nI 1)) (bgW wn (s.1 0) x1 (nI 0) (nI 0)) wa' w0 w1 rd z jj (sOpen s x1) zz := by
  obtain ⟨hC, h7, hH, h10, h9, h11, hm0, hm1, hs⟩ := h
  have hic := hI.ic
  rw [ho] at hC hic
  have hC2 : CW wn s (s.1 0) := hC
  have hic2 : IC s (s.1 0) := hic
  exact ⟨hC2.opn hic2 hv hx, rfl, fun _ => CW_lea hC2 hc hI, h10, h9, h11, hm0, hm1, hs.f4 rfl rfl rfl rfl⟩
theorem RepX_cls (h : RepX x wn wa w0 w1 rd z jj s zz) (ho : s.1 8 = 1) : RepX (oI x 7 (nI 0)) (oI wn 0 (nI (s.1 0 + 1))) wa w0 w1 rd z jj (sClose s) zz := by
  obtain ⟨hC, h7, hH, h10, h9, h11, hm0, hm1, hs⟩ := h
  rw [ho] at hC
  exact ⟨hC.cls, rfl, fun e => absurd e (show ¬ (0 : Nat) = 1 by decide), h10, h9, h11, hm0, hm1, hs.f4 rfl rfl rfl rfl⟩
theorem RepX_lea (h : RepX x wn wa w0 w1 rd z jj s zz) (hI : IS s) (ho : s.1 8 = 1) (hc : cpW wa wn') : RepX (oI x 7 (nI 0)) wn' wa w0 w1 rd z jj (sLeave s) zz := by
  obtain ⟨hC, h7, hH, h10, h9, h11, hm0, hm1, hs⟩ := h
  have h1 : CW wn' (sLeave s) (s.1 0) := (hH ho).bec hc hI.1 hI.2.2.2.2.2.2.2.1
  exact ⟨h1, rfl, fun e => absurd e (show ¬ (0 : Nat) = 1 by decide), h10, h9, h11, hm0, hm1, hs.f4 rfl rfl rfl rfl⟩
theorem RepX_dri {t : pS} (h : RepX x wn wa w0 w1 rd z jj s zz) (hD : stD s t) (ho : s.1 8 = 0) (h8 : t.1 8 = 0) (hC : CW wn' t (t.1 0)) : RepX x wn' wa w0 w1 rd z jj t zz := by
  obtain ⟨-, h7, hH, h10, h9, h11, hm0, hm1, hs⟩ := h
  obtain ⟨hn, hr⟩ := hD
  refine ⟨?_, ?_, ?_, ?_, ?_, ?_, ?_, ?_, ?_⟩
  · rw [h8]; exact hC
  · rw [h8, ← ho]; exact h7
  · intro e; rw [h8] at e; cases e
  · rw [hn 10 (by decide) (by decide) (by decide) (by decide)]; exact h10
  · rw [hn 10 (by decide) (by decide) (by decide) (by decide), hr 9 (by decide) (by decide) (by decide) (by decide)]; exact h9
  · rw [hr 11 (by decide) (by decide) (by decide) (by decide)]; exact h11
  · rw [hn 40 (by decide) (by decide) (by decide) (by decide), hn 42 (by decide) (by decide) (by decide) (by decide), hr 61 (by decide) (by decide) (by decide) (by decide), hr 62 (by decide) (by decide) (by decide) (by decide), hr 63 (by decide) (by decide) (by decide) (by decide), hr 65 (by decide) (by decide) (by decide) (by decide), hr 66 (by decide) (by decide) (by decide) (by decide), hr 67 (by decide) (by decide) (by decide) (by decide)]; exact hm0
  · rw [hn 41 (by decide) (by decide) (by decide) (by decide), hn 43 (by decide) (by decide) (by decide) (by decide), hr 71 (by decide) (by decide) (by decide) (by decide), hr 72 (by decide) (by decide) (by decide) (by decide), hr 73 (by decide) (by decide) (by decide) (by decide), hr 75 (by decide) (by decide) (by decide) (by decide), hr 76 (by decide) (by decide) (by decide) (by decide), hr 77 (by decide) (by decide) (by decide) (by decide)]; exact hm1
  · exact hs.f4 (hn 50 (by decide) (by decide) (by decide) (by decide)) (hn 51 (by decide) (by decide) (by decide) (by decide)) (hn 52 (by decide) (by decide) (by decide) (by decide)) (hn 53 (by decide) (by decide) (by decide) (by decide))
theorem RepX_fee {c : Int32} (h : RepX x wn wa w0 w1 rd z jj s zz) : RepX x wn wa w0 w1 (oI (oA rd 0 (upd (rd.2 0) (s.1 10) c)) 1 (nI (s.1 10 + 1))) z jj (pN (pR s 9 (upd (s.2 9) (s.1 10) c)) 10 (s.1 10 + 1)) zz := by
  obtain ⟨hC, h7, hH, h10, h9, h11, hm0, hm1, hs⟩ := h
  exact ⟨hC, h7, hH, rfl, h9.upd c, h11, hm0, hm1, hs.f4 rfl rfl rfl rfl⟩
theorem RepX_bad {p : Nat} (h : RepX x wn wa w0 w1 rd z jj s zz) (h1 : rd'.1 1 = nI 0) (h8 : x'.1 8 = nI p) (h7' : x'.1 7 = x.1 7) (h3 : x'.2 3 = x.2 3) : RepX x' wn wa w0 w1 rd' z jj (sBad s p) zz := by
  obtain ⟨hC, h7, hH, h10, h9, h11, hm0, hm1, hs⟩ := h
  refine ⟨hC, h7'.trans h7, hH, h1, fun i hi => absurd hi (Nat.not_lt_zero i), h8, ?_, ?_, hs.f4 rfl rfl rfl rfl⟩
  · rw [h3]; exact hm0
  · rw [h3]; exact hm1
theorem RepX_wov {t p : oS} {q : pS} (h : RepX x wn wa w0 w1 rd z jj s zz) (h1 : rd'.1 1 = nI 0) (h8 : x'.1 8 = -1) (h7' : x'.1 7 = nI 0) (h3 : ∀ i, i < 2 → x'.2 3 i = 0) (hp : WovC p q) (hc : cpW p wn') : RepX x' wn' wa w0 w1 rd' z jj (sWov s q) zz := by
  obtain ⟨hC, h7, hH, h10, h9, h11, hm0, hm1, hs⟩ := h
  obtain ⟨p1, p2, p3, p4, p5, p6, p7, p8, p9, p10, p11, p12⟩ := hp
  have hW : CW p (sWov s q) (q.1 15) := by
    refine ⟨p1, p2, p6, p7, p8, fun i hi => (p12 i hi).trans ?_, p9, p10, p11⟩
    exact chV_c (by omega) (parRw2 p6 p5 |>.le (by omega)) (fun j hj => ⟨p6 j (by omega), p7 j (by omega), p8 j (by omega)⟩)
  exact ⟨hW.bec hc p3 p4, h7', fun e => absurd e (show ¬ (0 : Nat) = 1 by decide), h1, fun i hi => absurd hi (Nat.not_lt_zero i), h8, Or.inl ⟨rfl, h3 0 (by omega)⟩, Or.inl ⟨rfl, h3 1 (by omega)⟩, hs.f4 rfl rfl rfl rfl⟩
theorem CW_kee (h : CW wn s (s.1 0)) (hc : cpW wn w0') (hI : IS s) : CW w0' (mkS (s.1 0 + 1 - 1) (s.1 4) (s.2 1) (s.2 2) (s.2 3) (s.2 5) (s.2 6) (s.2 7)) (s.1 0 + 1 - 1) := by
  have h2 := h.bec hc (by have := hI.1; omega) hI.2.1
  obtain ⟨c1, c2, c3, c4, c5, c6, c7, c8, c9⟩ := h2
  exact ⟨c1, c2, c3, c4, c5, c6, c7, c8, c9⟩
theorem RepX_kee0 {f : Nat → Int32} (h : RepX x wn wa w0 w1 rd z jj s zz) (hI : IS s) (ho : s.1 8 = 0) (hc : cpW wn w0') (h0 : ¬ f 0 = 0) (h1 : f 1 = x.2 3 1) : RepX (oA x 3 f) wn wa w0' w1 rd z jj (sKeep s 0) zz := by
  obtain ⟨hC, h7, hH, h10, h9, h11, hm0, hm1, hs⟩ := h
  have hC2 : CW wn s (s.1 0) := by rw [ho] at hC; exact hC
  refine ⟨hC, h7, fun e => absurd (ho.symm.trans e) (by decide), h10, h9, h11, Or.inr ⟨Nat.succ_pos _, h0, CW_kee hC2 hc hI⟩, ?_, hs.f4 rfl rfl rfl rfl⟩
  show ImX (f 1) _ _ _ _ _ _ _ _ _
  rw [h1]
  exact hm1
theorem RepX_kee1 {f : Nat → Int32} (h : RepX x wn wa w0 w1 rd z jj s zz) (hI : IS s) (ho : s.1 8 = 0) (hc : cpW wn w1') (h1 : ¬ f 1 = 0) (h0 : f 0 = x.2 3 0) : RepX (oA x 3 f) wn wa w0 w1' rd z jj (sKeep s 1) zz := by
  obtain ⟨hC, h7, hH, h10, h9, h11, hm0, hm1, hs⟩ := h
  have hC2 : CW wn s (s.1 0) := by rw [ho] at hC; exact hC
  refine ⟨hC, h7, fun e => absurd (ho.symm.trans e) (by decide), h10, h9, h11, ?_, Or.inr ⟨Nat.succ_pos _, h1, CW_kee hC2 hc hI⟩, hs.f4 rfl rfl rfl rfl⟩
  show ImX (f 0) _ _ _ _ _ _ _ _ _
  rw [h0]
  exact hm0
theorem ImX_y {y : Int32} {w : oS} {n q : Nat} {p1 p2 p3 p5 p6 p7 : Nat → Int32} (h : ImX y w n q p1 p2 p3 p5 p6 p7) (hy : ¬ y = 0) : 0 < n ∧ CW w (mkS (n - 1) q p1 p2 p3 p5 p6 p7) (n - 1) := by
  rcases h with ⟨-, e⟩ | ⟨a, -, b⟩
  · exact absurd e hy
  · exact ⟨a, b⟩
theorem ImX_n {w : oS} {n q : Nat} {y : Int32} {p1 p2 p3 p5 p6 p7 : Nat → Int32} (h : ImX y w n q p1 p2 p3 p5 p6 p7) (hy : y = 0) : n = 0 := by
  rcases h with ⟨a, -⟩ | ⟨-, b, -⟩
  · exact a
  · exact absurd hy b
theorem RepX_bac0 (h : RepX x wn wa w0 w1 rd z jj s zz) (hI : IS s) (hy : ¬ x.2 3 0 = 0) (hc : cpW w0 wn') : RepX (oI x 7 (nI 0)) wn' wa w0 w1 rd z jj (sBack s 0) zz := by
  obtain ⟨hC, h7, hH, h10, h9, h11, hm0, hm1, hs⟩ := h
  obtain ⟨-, h2⟩ := ImX_y hm0 hy
  have hb := hI.2.2.2.2.2.2.2.2.1
  obtain ⟨c1, c2, c3, c4, c5, c6, c7, c8, c9⟩ := h2.bec hc (by omega) hb.2.1
  exact ⟨⟨c1, c2, c3, c4, c5, c6, c7, c8, c9⟩, rfl, fun e => absurd e (show ¬ (0 : Nat) = 1 by decide), h10, h9, h11, hm0, hm1, hs.f4 rfl rfl rfl rfl⟩
theorem RepX_bac1 (h : RepX x wn wa w0 w1 rd z jj s zz) (hI : IS s) (hy : ¬ x.2 3 1 = 0) (hc : cpW w1 wn') : RepX (oI x 7 (nI 0)) wn' wa w0 w1 rd z jj (sBack s 1) zz := by
  obtain ⟨hC, h7, hH, h10, h9, h11, hm0, hm1, hs⟩ := h
  obtain ⟨-, h2⟩ := ImX_y hm1 hy
  have hb := hI.2.2.2.2.2.2.2.2.2.1
  obtain ⟨c1, c2, c3, c4, c5, c6, c7, c8, c9⟩ := h2.bec hc (by omega) hb.2.1
  exact ⟨⟨c1, c2, c3, c4, c5, c6, c7, c8, c9⟩, rfl, fun e => absurd e (show ¬ (0 : Nat) = 1 by decide), h10, h9, h11, hm0, hm1, hs.f4 rfl rfl rfl rfl⟩
end CLS
/-! the reference: the text to be told, images -/
section REF
variable {u v : oS} {sj : Nat → Int64} {s : pS} {zz : Nat → Nat → Int64}
theorem RepM_fee {c : Int32} (h : RepM u sj s zz) : RepM (oI (oA u 9 (upd (u.2 9) (s.1 10) c)) 10 (nI (s.1 10 + 1))) sj (pN (pR s 9 (upd (s.2 9) (s.1 10) c)) 10 (s.1 10 + 1)) zz := by
  obtain ⟨hC, h8, h10, h9, h11, hH, h27, hm0, hm1, hs⟩ := h
  exact ⟨hC, h8, rfl, h9.upd c, h11, hH, h27, hm0, hm1, hs.f4 rfl rfl rfl rfl rfl rfl⟩
theorem RepM_bad {p : Nat} (h : RepM u sj s zz) (h10 : v.1 10 = nI 0) (h11 : v.1 11 = nI p) (hR : rel [10, 11, 12, 13, 14, 15, 19, 23] [16, 17, 18, 20, 21, 22, 24, 25] u v) : RepM v sj (sBad s p) zz := by
  have e0 := hR.1 0 (by decide); have e4 := hR.1 4 (by decide); have e8 := hR.1 8 (by decide); have e27 := hR.1 27 (by decide)
  have r1 := hR.2 1 (by decide); have r2 := hR.2 2 (by decide); have r3 := hR.2 3 (by decide); have r5 := hR.2 5 (by decide); have r6 := hR.2 6 (by decide); have r7 := hR.2 7 (by decide)
  have r28 := hR.2 28 (by decide); have r29 := hR.2 29 (by decide); have r30 := hR.2 30 (by decide); have r32 := hR.2 32 (by decide); have r33 := hR.2 33 (by decide); have r35 := hR.2 35 (by decide); have r36 := hR.2 36 (by decide); have r37 := hR.2 37 (by decide)
  obtain ⟨hC, h8, -, -, -, hH, h27, hm0, hm1, hs⟩ := h
  refine ⟨hC.of e0 e4 r1 r2 r3 r5 r6 r7, e8.trans h8, h10, fun i hi => absurd hi (Nat.not_lt_zero i), h11, fun e => ?_, ?_, hm0.of r35 r36 r37, hm1.of r35 r36 r37, hs.f4 rfl rfl rfl rfl r32 r33⟩
  · obtain ⟨a, b, c, d⟩ := hH e
    refine ⟨e27.trans a, ?_, ?_, ?_⟩
    · rw [r28]; exact b
    · rw [r29]; exact c
    · rw [r30]; exact d
  · rw [e27]; exact h27
theorem RepM_wov {q : pS} (h : RepM u sj s zz) (h10 : v.1 10 = nI 0) (h11 : v.1 11 = -1) (hW : WovM u v q) : RepM v sj (sWov s q) zz := by
  obtain ⟨p1, p2, p3, p4, p5, p6, p7, p8, p9, p10, hR⟩ := hW
  have e27 := hR.1 27 (by decide)
  obtain ⟨hC, h8, -, -, -, hH, h27, hm0, hm1, hs⟩ := h
  refine ⟨⟨p1, p2, p4, p5, p6, p7, p8, p9⟩, p3, h10, fun i hi => absurd hi (Nat.not_lt_zero i), h11, fun e => absurd e (show ¬ (0 : Nat) = 1 by decide), ?_, Or.inl ⟨rfl, p10 0 (by omega)⟩, Or.inl ⟨rfl, p10 1 (by omega)⟩, hs.f4 rfl rfl rfl rfl (hR.2 32 (by decide)) (hR.2 33 (by decide))⟩
  rw [e27]
  exact h27
/-- an image as it is written, row by row -/
def imgF (f o : Nat → Int32) (i : Nat) (p1 p2 p3 p5 p6 p7 : Nat → Int32) (k m : Nat) : Prop := (∀ j, j < k → f (432 * i + j) = p1 j) ∧ (∀ j, j < k → f (432 * i + 24 + j) = p2 j) ∧ (∀ j, j < k → f (432 * i + 48 + j) = p3 j) ∧ (∀ j, j < m → f (432 * i + 72 + j) = p5 j) ∧ (∀ j, j < m → f (432 * i + 192 + j) = p6 j) ∧ (∀ j, j < m → f (432 * i + 312 + j) = p7 j) ∧ (∀ j, j < 432 → f (432 * (1 - i) + j) = o (432 * (1 - i) + j))
theorem imgF_0 (o : Nat → Int32) (i : Nat) (p1 p2 p3 p5 p6 p7 : Nat → Int32) : imgF o o i p1 p2 p3 p5 p6 p7 0 0 := ⟨fun j h => absurd h (Nat.not_lt_zero j), fun j h => absurd h (Nat.not_lt_zero j), fun j h => absurd h (Nat.not_lt_zero j), fun j h => absurd h (Nat.not_lt_zero j), fun j h => absurd h (Nat.not_lt_zero j), fun j h => absurd h (Nat.not_lt_zero j), fun _ _ => rfl⟩
theorem imgF_a {f o : Nat → Int32} {i k : Nat} {p1 p2 p3 p5 p6 p7 : Nat → Int32} (h : imgF f o i p1 p2 p3 p5 p6 p7 k 0) (hk : k < 24) (hi : i ≤ 1) : imgF (upd (upd (upd f (432 * i + k) (p1 k)) (432 * i + 24 + k) (p2 k)) (432 * i + 48 + k) (p3 k)) o i p1 p2 p3 p5 p6 p7 (k + 1) 0 := by
  obtain ⟨h1, h2, h3, -, -, -, h7⟩ := h
  refine ⟨fun j hj => ?_, fun j hj => ?_, fun j hj => ?_, fun j h => absurd h (Nat.not_lt_zero j), fun j h => absurd h (Nat.not_lt_zero j), fun j h => absurd h (Nat.not_lt_zero j), fun j hj => ?_⟩
  · rw [pk_un (by omega), pk_un (by omega)]
    by_cases e : j = k
    · subst e; rw [pk_us]
    · rw [pk_un (by omega)]; exact h1 j (by omega)
  · rw [pk_un (by omega)]
    by_cases e : j = k
    · subst e; rw [pk_us]
    · rw [pk_un (by omega), pk_un (by omega)]; exact h2 j (by omega)
  · by_cases e : j = k
    · subst e; rw [pk_us]
    · rw [pk_un (by omega), pk_un (by omega), pk_un (by omega)]; exact h3 j (by omega)
  · rw [pk_un (by omega), pk_un (by omega), pk_un (by omega)]; exact h7 j hj
theorem imgF_b {f o : Nat → Int32} {i n k : Nat} {p1 p2 p3 p5 p6 p7 : Nat → Int32} (h : imgF f o i p1 p2 p3 p5 p6 p7 n k) (hn : n ≤ 24) (hk : k < 120) (hi : i ≤ 1) : imgF (upd (upd (upd f (432 * i + 72 + k) (p5 k)) (432 * i + 192 + k) (p6 k)) (432 * i + 312 + k) (p7 k)) o i p1 p2 p3 p5 p6 p7 n (k + 1) := by
  obtain ⟨h1, h2, h3, h4, h5, h6, h7⟩ := h
  refine ⟨fun j hj => ?_, fun j hj => ?_, fun j hj => ?_, fun j hj => ?_, fun j hj => ?_, fun j hj => ?_, fun j hj => ?_⟩
  · rw [pk_un (by omega), pk_un (by omega), pk_un (by omega)]; exact h1 j hj
  · rw [pk_un (by omega), pk_un (by omega), pk_un (by omega)]; exact h2 j hj
  · rw [pk_un (by omega), pk_un (by omega), pk_un (by omega)]; exact h3 j hj
  · rw [pk_un (by omega), pk_un (by omega)]
    by_cases e : j = k
    · subst e; rw [pk_us]
    · rw [pk_un (by omega)]; exact h4 j (by omega)
  · rw [pk_un (by omega)]
    by_cases e : j = k
    · subst e; rw [pk_us]
    · rw [pk_un (by omega), pk_un (by omega)]; exact h5 j (by omega)
  · by_cases e : j = k
    · subst e; rw [pk_us]
    · rw [pk_un (by omega), pk_un (by omega), pk_un (by omega)]; exact h6 j (by omega)
  · rw [pk_un (by omega), pk_un (by omega), pk_un (by omega)]; exact h7 j hj
theorem ImM_oth {f : Nat → Int32} {i n q n1 q1 : Nat} {p1 p2 p3 p5 p6 p7 a1 a2 a3 a5 a6 a7 : Nat → Int32} (h : ImM u i n q p1 p2 p3 p5 p6 p7) (hi : i ≤ 1) (hn : n ≤ 25) (hq : q ≤ 120) (hf : imgF f (u.2 37) (1 - i) a1 a2 a3 a5 a6 a7 n1 q1) {y z : Int32} : ImM (oA (oA (oA u 35 (upd (u.2 35) (1 - i) y)) 36 (upd (u.2 36) (1 - i) z)) 37 f) i n q p1 p2 p3 p5 p6 p7 := by
  obtain ⟨-, -, -, -, -, -, h7⟩ := hf
  rw [show 1 - (1 - i) = i by omega] at h7
  rcases h with ⟨h0, h1⟩ | ⟨h0, h1, h2, g1, g2, g3, g5, g6, g7⟩
  · refine Or.inl ⟨h0, ?_⟩
    show upd (u.2 35) (1 - i) y i = -1
    rw [pk_un (by omega)]; exact h1
  · refine Or.inr ⟨h0, ?_, ?_, fun j hj => ?_, fun j hj => ?_, fun j hj => ?_, fun j hj => ?_, fun j hj => ?_, fun j hj => ?_⟩
    · show upd (u.2 35) (1 - i) y i = _
      rw [pk_un (by omega)]; exact h1
    · show upd (u.2 36) (1 - i) z i = _
      rw [pk_un (by omega)]; exact h2
    · exact (h7 j (by omega)).trans (g1 j hj)
    · exact ((congrArg f (Nat.add_assoc _ 24 j)).trans (h7 (24 + j) (by omega))).trans ((congrArg (u.2 37) (Nat.add_assoc _ 24 j).symm).trans (g2 j hj))
    · exact ((congrArg f (Nat.add_assoc _ 48 j)).trans (h7 (48 + j) (by omega))).trans ((congrArg (u.2 37) (Nat.add_assoc _ 48 j).symm).trans (g3 j hj))
    · exact ((congrArg f (Nat.add_assoc _ 72 j)).trans (h7 (72 + j) (by omega))).trans ((congrArg (u.2 37) (Nat.add_assoc _ 72 j).symm).trans (g5 j hj))
    · exact ((congrArg f (Nat.add_assoc _ 192 j)).trans (h7 (192 + j) (by omega))).trans ((congrArg (u.2 37) (Nat.add_assoc _ 192 j).symm).trans (g6 j hj))
    · exact ((congrArg f (Nat.add_assoc _ 312 j)).trans (h7 (312 + j) (by omega))).trans ((congrArg (u.2 37) (Nat.add_assoc _ 312 j).symm).trans (g7 j hj))
theorem ImM_new {f : Nat → Int32} {i : Nat} (hC : CM u s (s.1 0)) (hf : imgF f (u.2 37) i (u.2 1) (u.2 2) (u.2 3) (u.2 5) (u.2 6) (u.2 7) (s.1 0) (s.1 4)) : ImM (oA (oA (oA u 35 (upd (u.2 35) i (nI (s.1 0)))) 36 (upd (u.2 36) i (nI (s.1 4)))) 37 f) i (s.1 0 + 1) (s.1 4) (s.2 1) (s.2 2) (s.2 3) (s.2 5) (s.2 6) (s.2 7) := by
  obtain ⟨c1, c2, c3, c4, c5, c6, c7, c8⟩ := hC
  obtain ⟨h1, h2, h3, h4, h5, h6, -⟩ := hf
  refine Or.inr ⟨Nat.succ_pos _, ?_, ?_, fun j hj => (h1 j hj).trans (c3 j hj), fun j hj => (h2 j hj).trans (c4 j hj), fun j hj => (h3 j hj).trans (c5 j hj), fun j hj => (h4 j hj).trans (c6 j hj), fun j hj => (h5 j hj).trans (c7 j hj), fun j hj => (h6 j hj).trans (c8 j hj)⟩
  · show upd (u.2 35) i (nI (s.1 0)) i = _
    rw [pk_us]; rfl
  · show upd (u.2 36) i (nI (s.1 4)) i = _
    rw [pk_us]
theorem RepM_kee {f : Nat → Int32} {i : Nat} (h : RepM u sj s zz) (hI : IS s) (ho : s.1 8 = 0) (hi : i < 2) (hf : imgF f (u.2 37) i (u.2 1) (u.2 2) (u.2 3) (u.2 5) (u.2 6) (u.2 7) (s.1 0) (s.1 4)) : RepM (oA (oA (oA u 35 (upd (u.2 35) i (nI (s.1 0)))) 36 (upd (u.2 36) i (nI (s.1 4)))) 37 f) sj (sKeep s i) zz := by
  obtain ⟨hC, h8, h10, h9, h11, hH, h27, hm0, hm1, hs⟩ := h
  have hC2 : CM u s (s.1 0) := by rw [ho] at hC; exact hC
  have b0 := hI.2.2.2.2.2.2.2.2.1
  have b1' := hI.2.2.2.2.2.2.2.2.2.1
  have hN := ImM_new hC2 hf
  rcases (show i = 0 ∨ i = 1 by omega) with rfl | rfl
  · exact ⟨hC, h8, h10, h9, h11, fun e => absurd (ho.symm.trans e) (by decide), h27, hN, ImM_oth (i := 1) hm1 (by omega) b1'.1 b1'.2.1 hf, hs.f4 rfl rfl rfl rfl rfl rfl⟩
  · exact ⟨hC, h8, h10, h9, h11, fun e => absurd (ho.symm.trans e) (by decide), h27, ImM_oth (i := 0) hm0 (by omega) b0.1 b0.2.1 hf, hN, hs.f4 rfl rfl rfl rfl rfl rfl⟩
theorem RepM_bac {f1 f2 f3 f5 f6 f7 : Nat → Int32} {i n q : Nat} (h : RepM u sj s zz) (hI : IS s) (hi : i < 2) (e35 : u.2 35 i = nI n) (hn : n ≤ 24) (e36 : u.2 36 i = nI q) (hq : q ≤ 120)
    (h1 : ∀ j, j < n → f1 j = u.2 37 (432 * i + j)) (h2 : ∀ j, j < n → f2 j = u.2 37 (432 * i + 24 + j)) (h3 : ∀ j, j < n → f3 j = u.2 37 (432 * i + 48 + j)) (h5 : ∀ j, j < q → f5 j = u.2 37 (432 * i + 72 + j)) (h6 : ∀ j, j < q → f6 j = u.2 37 (432 * i + 192 + j)) (h7 : ∀ j, j < q → f7 j = u.2 37 (432 * i + 312 + j)) :
    RepM (ln3 (oA (oA (oA (oI (oI (oI u 0 (nI n)) 4 (nI q)) 8 (nI 0)) 1 f1) 2 f2) 3 f3) f5 f6 f7) sj (sBack s i) zz ∧ 0 < s.1 (40 + i) ∧ n = s.1 (40 + i) - 1 := by
  obtain ⟨hC, h8, h10, h9, h11, hH, h27, hm0, hm1, hs⟩ := h
  have b0 := hI.2.2.2.2.2.2.2.2.1
  have b1' := hI.2.2.2.2.2.2.2.2.2.1
  rcases (show i = 0 ∨ i = 1 by omega) with rfl | rfl
  · rcases id hm0 with ⟨-, g⟩ | ⟨g0, g1, g2, a1, a2, a3, a5, a6, a7⟩
    · exact absurd (e35.symm.trans g) (nI_nm1 (by omega))
    · have en : n = s.1 40 - 1 := nI_inj5 (by omega) (by have := b0.1; omega) (e35.symm.trans g1)
      have eq : q = s.1 42 := nI_inj5 (by omega) (by have := b0.2.1; omega) (e36.symm.trans g2)
      subst en
      subst eq
      exact ⟨⟨⟨rfl, rfl, fun j hj => (h1 j hj).trans (a1 j hj), fun j hj => (h2 j hj).trans (a2 j hj), fun j hj => (h3 j hj).trans (a3 j hj), fun j hj => (h5 j hj).trans (a5 j hj), fun j hj => (h6 j hj).trans (a6 j hj), fun j hj => (h7 j hj).trans (a7 j hj)⟩, rfl, h10, h9, h11, fun e => absurd e (show ¬ (0 : Nat) = 1 by decide), h27, hm0, hm1, hs.f4 rfl rfl rfl rfl rfl rfl⟩, g0, rfl⟩
  · rcases id hm1 with ⟨-, g⟩ | ⟨g0, g1, g2, a1, a2, a3, a5, a6, a7⟩
    · exact absurd (e35.symm.trans g) (nI_nm1 (by omega))
    · have en : n = s.1 41 - 1 := nI_inj5 (by omega) (by have := b1'.1; omega) (e35.symm.trans g1)
      have eq : q = s.1 43 := nI_inj5 (by omega) (by have := b1'.2.1; omega) (e36.symm.trans g2)
      subst en
      subst eq
      exact ⟨⟨⟨rfl, rfl, fun j hj => (h1 j hj).trans (a1 j hj), fun j hj => (h2 j hj).trans (a2 j hj), fun j hj => (h3 j hj).trans (a3 j hj), fun j hj => (h5 j hj).trans (a5 j hj), fun j hj => (h6 j hj).trans (a6 j hj), fun j hj => (h7 j hj).trans (a7 j hj)⟩, rfl, h10, h9, h11, fun e => absurd e (show ¬ (0 : Nat) = 1 by decide), h27, hm0, hm1, hs.f4 rfl rfl rfl rfl rfl rfl⟩, g0, rfl⟩
theorem RepM_nob {i : Nat} (h : RepM u sj s zz) (hI : IS s) (hi : i < 2) (e : u.2 35 i < 0) : s.1 (40 + i) = 0 := by
  have b0 := hI.2.2.2.2.2.2.2.2.1
  have b1' := hI.2.2.2.2.2.2.2.2.2.1
  obtain ⟨-, -, -, -, -, -, -, hm0, hm1, -⟩ := h
  rcases (show i = 0 ∨ i = 1 by omega) with rfl | rfl
  · rcases hm0 with ⟨g, -⟩ | ⟨g0, g1, -⟩
    · exact g
    · rw [g1] at e; exact absurd e (nI_pos (by have := b0.1; omega))
  · rcases hm1 with ⟨g, -⟩ | ⟨g0, g1, -⟩
    · exact g
    · rw [g1] at e; exact absurd e (nI_pos (by have := b1'.1; omega))
end REF
/-! more small facts -/
theorem cg2 {A B C : Type} (f : A → B → C) {a a' : A} {b b' : B} (h : a = a') (g : b = b') : f a b = f a' b' := by rw [h, g]
theorem CM.eld {u : oS} {s : pS} {top : Nat} (h : CM u s top) (hI : IC s top) {i : Nat} (hi : i < top) : eldV (u.2 1) (nI i) = eldV (s.2 1) (nI i) := eldG_c 25 i (by have := hI.2.1; omega) ((h.par hI).le (by omega)) (fun j hj => h.2.2.1 j (by omega))
theorem CW.eld {w : oS} {s : pS} {top : Nat} (h : CW w s top) (hI : IC s top) {i : Nat} (hi : i < top) : eldV (w.2 1) (nI i) = eldV (s.2 1) (nI i) := eldG_c 25 i (by have := hI.2.1; omega) ((parRw2 h.2.2.1 hI.2.2.2).le (by omega)) (fun j hj => h.2.2.1 j (by omega))
theorem cnt_hit {p : Nat → Bool} {i n : Nat} (hi : i < n) (hp : p i = true) : cnt p i < cnt p n := by
  have := cnt_mono p (a := i + 1) (b := n) hi
  rw [cnt_t hp] at this
  omega
section OPENM
variable {u : oS} {sj : Nat → Int64} {s : pS} {zz : Nat → Nat → Int64}
theorem olM (h : RepM u sj s zz) (hI : IS s) (ho : s.1 8 = 1) : cnt (sdb (u.2 6) (u.2 7) (chV (u.2 1) (u.2 2) (u.2 3) (nI (s.1 0)))) (s.1 4) = olS s := by
  rw [cvO h.1 hI ho]
  exact h.1.nl _
theorem posM (h : RepM u sj s zz) (hI : IS s) (ho : s.1 8 = 1) {q : Nat} : posP (sdb (u.2 6) (u.2 7) (chV (u.2 1) (u.2 2) (u.2 3) (nI (s.1 0)))) (s.1 4) q = posP (sdS s (cvS s (s.1 0))) (s.1 4) q := by
  rw [cvO h.1 hI ho]
  exact posP_c (h.1.sd _)
theorem fndM (h : RepM u sj s zz) (hI : IS s) (ho : s.1 8 = 1) {i q : Nat} (hi : i < s.1 4) (hp : sdb (u.2 6) (u.2 7) (chV (u.2 1) (u.2 2) (u.2 3) (nI (s.1 0))) i = true) (hq : cnt (sdb (u.2 6) (u.2 7) (chV (u.2 1) (u.2 2) (u.2 3) (nI (s.1 0)))) i = q) : fndN (sdS s (cvS s (s.1 0))) (s.1 4) q = i ∧ q < olS s := by
  have e := cvO h.1 hI ho
  refine ⟨?_, ?_⟩
  · rw [← e, ← fndN_c _ _ (h.1.sd _)]
    exact fndN_hit hp hq hi
  · rw [← olM h hI ho, ← hq]
    exact cnt_hit hi hp
end OPENM
theorem sgn64_y {x : Int32} (h0 : (65 : Int64) ≤ x.toInt64) (h1 : x.toInt64 ≤ 90) : sgn x = true := by
  rw [Int64.le_iff_toInt_le, Int32.toInt_toInt64] at h0 h1
  have e0 : (65 : Int64).toInt = 65 := rfl
  have e2 : (90 : Int64).toInt = 90 := rfl
  exact decide_eq_true ⟨by omega, by omega⟩
theorem sgn64_n {x : Int32} (h : ¬ ((65 : Int64) ≤ x.toInt64 ∧ x.toInt64 ≤ 90)) : ¬ sgn x = true := by
  intro q
  have q2 := of_decide_eq_true q
  apply h
  rw [Int64.le_iff_toInt_le, Int64.le_iff_toInt_le, Int32.toInt_toInt64]
  have e0 : (65 : Int64).toInt = 65 := rfl
  have e2 : (90 : Int64).toInt = 90 := rfl
  omega
theorem rg64_n {v : Int32} {A B : Int64} {b : Nat} (hA : A.toInt = 0) (hB : B.toInt = b) (h : ¬ (A ≤ v.toInt64 ∧ v.toInt64 ≤ B)) : ¬ inR v (b + 1) = true := by
  intro q
  have q2 := of_decide_eq_true q
  apply h
  rw [Int64.le_iff_toInt_le, Int64.le_iff_toInt_le, Int32.toInt_toInt64]
  omega
theorem dr64_n {v : Int32} {A B : Int64} {b : Nat} (hA : A.toInt = 1) (hB : B.toInt = b) (h : ¬ (A ≤ v.toInt64 ∧ v.toInt64 ≤ B)) : ¬ (inR v (b + 1) = true ∧ 0 < v) := by
  rintro ⟨q, p⟩
  have q2 := of_decide_eq_true q
  rw [Int32.lt_iff_toInt_lt] at p
  have e0 : (0 : Int32).toInt = 0 := rfl
  apply h
  rw [Int64.le_iff_toInt_le, Int64.le_iff_toInt_le, Int32.toInt_toInt64]
  omega
theorem inR_t' {j n : Nat} (hj : j < n) (hn : n ≤ 1000000) : inR (nI j) n = true := by
  unfold inR
  rw [nI_toInt (by omega)]
  exact decide_eq_true ⟨by omega, by omega⟩
theorem nI_p0 {j : Nat} (h0 : 0 < j) (h : j < 2147483648) : (0 : Int32) < nI j := (nI_ltI (a := 0) (b := j) (by omega) (by omega)).mpr h0
theorem sLines_s {k : Nat} {t : pS × Nat × Bool} (h : t.2.2 = true) : sLines (k + 1) t = sLines k (sLine t.1 t.2.1) := by rw [sLines, if_pos h]
theorem sVers_s {k : Nat} {t : pS × Nat × Bool} (h : t.2.2 = true ∧ t.1.1 0 < 24) : sVers (k + 1) t = sVers k (sVer t) := by rw [sVers, if_pos h]
/-- what speaks against numbers of a sheet -/
theorem ref_unk {s : pS} {s1 i : Int32} {q : Nat} (h : ∀ j, j < 4 → s1 ≠ nI j) : refS s s1 i q = aUNK := by rw [refS, if_pos (inR_f (by omega) h)]
theorem ref_nul {s : pS} {i : Int32} {js q : Nat} (hj : js < 4) (e : s.1 (50 + js) = 0) : refS s (nI js) i q = aNULL := by rw [refS, if_neg (not_not_intro (inR_t hj (by omega))), vN_n (by omega), if_pos e]
theorem ref_ok {s : pS} {js ji q z : Nat} (hj : js < 4) (e : s.1 (50 + js) = z + 1) (hz : z ≤ 40) (h : ji + q ≤ z) : refS s (nI js) (nI ji) q = 0 := by
  rw [refS, if_neg (not_not_intro (inR_t hj (by omega))), vN_n (j := js) (by omega), if_neg (by omega), vN_n (j := ji) (by omega), if_neg]
  rintro (p | p)
  · exact nI_pos (by omega) p
  · omega
theorem ref_plc {s : pS} {i : Int32} {js q z : Nat} (hj : js < 4) (e : s.1 (50 + js) = z + 1) (h : ¬ ∃ ji, i = nI ji ∧ ji + q ≤ z) : refS s (nI js) i q = aPLC := by
  rw [refS, if_neg (not_not_intro (inR_t hj (by omega))), vN_n (j := js) (by omega), if_neg (by omega), if_pos]
  by_cases p : i < 0
  · exact Or.inl p
  · obtain ⟨ji, h1, rfl⟩ := nI_of1 p
    refine Or.inr ?_
    rw [vN_n' h1]
    rcases Nat.lt_or_ge (s.1 (50 + js) - 1) (ji + q) with r | r
    · exact r
    · exact absurd ⟨ji, rfl, by omega⟩ h
theorem ShM.sz {u : oS} {sj : Nat → Int64} {s : pS} {zz : Nat → Nat → Int64} {j z : Nat} (h : ShM u sj s zz) (hI : IS s) (hj : j < 4) (ht : ¬ u.2 32 j = 0) (hz : z ≤ 40) (ez : u.2 33 j = nI z) : s.1 (50 + j) = z + 1 ∧ ∀ k, k < z → sj (40 * j + k) = zz j k := by
  have i11 := hI.2.2.2.2.2.2.2.2.2.2 j hj
  rcases h j hj with ⟨-, g, -⟩ | ⟨g0, -, g2, g3⟩
  · exact absurd g ht
  · have e : s.1 (50 + j) - 1 = z := nI_inj5 (by omega) (by omega) (g2.symm.trans ez)
    exact ⟨by omega, fun k hk => g3 k (by omega)⟩
theorem ShM.no {u : oS} {sj : Nat → Int64} {s : pS} {zz : Nat → Nat → Int64} {j : Nat} (h : ShM u sj s zz) (hj : j < 4) (ht : u.2 32 j = 0) : s.1 (50 + j) = 0 := by
  rcases h j hj with ⟨g, -, -⟩ | ⟨-, g, -, -⟩
  · exact g
  · exact absurd ht g
theorem ShX.sz {z : oS} {jj : Nat → Nat → Int64} {s : pS} {zz : Nat → Nat → Int64} {j q : Nat} (h : ShX z jj s zz) (hI : IS s) (hj : j < 4) (hq : q ≤ 40) (e : z.2 1 j = nI q) : s.1 (50 + j) = q + 1 ∧ ∀ k, k < q → jj j k = zz j k := by
  have i11 := hI.2.2.2.2.2.2.2.2.2.2 j hj
  rcases h j hj with ⟨-, g⟩ | ⟨g0, g2, g3⟩
  · exact absurd (e.symm.trans g) (nI_nm1 (by omega))
  · have e2 : s.1 (50 + j) - 1 = q := nI_inj5 (by omega) (by omega) (g2.symm.trans e)
    exact ⟨by omega, fun k hk => g3 k (by omega)⟩
theorem ShX.no {z : oS} {jj : Nat → Nat → Int64} {s : pS} {zz : Nat → Nat → Int64} {j : Nat} (h : ShX z jj s zz) (hI : IS s) (hj : j < 4) (e : z.2 1 j = -1) : s.1 (50 + j) = 0 := by
  have i11 := hI.2.2.2.2.2.2.2.2.2.2 j hj
  rcases h j hj with ⟨g, -⟩ | ⟨g0, g2, -⟩
  · exact g
  · exact absurd (g2.symm.trans e) (nI_nm1 (by omega))
theorem ShX.s4 {z : oS} {jj : Nat → Nat → Int64} {s : pS} {zz : Nat → Nat → Int64} (h : ShX z jj s zz) (hI : IS s) : ∀ j, j < 4 → z.2 1 j = -1 ∨ ∃ q, q ≤ 40 ∧ z.2 1 j = nI q := by
  intro j hj
  have i11 := hI.2.2.2.2.2.2.2.2.2.2 j hj
  rcases h j hj with ⟨-, g⟩ | ⟨g0, g2, -⟩
  · exact Or.inl g
  · exact Or.inr ⟨s.1 (50 + j) - 1, by omega, g2⟩
/-- films -/
def picS (s : pS) (i : Nat) : Int64 := (s.2 5 i).toInt64 + 256 * (s.2 6 i).toInt64 + 65536 * (lifeS s i).toInt64
def filA (s : pS) (v s1 i : Int32) : Int32 := if inR v (s.1 0) = true then (if refS s s1 i (nlS s (cvS s (vN v))) = 0 then nI (nlS s (cvS s (vN v))) else refS s s1 i (nlS s (cvS s (vN v)))) else aUNK
def filB (s : pS) (zz : Nat → Nat → Int64) (v j p n : Nat) : Nat → Nat → Int64 := fun a k => if a = j ∧ p ≤ k ∧ k < p + n then picS s (fndN (sdS s (cvS s v)) (s.1 4) (k - p)) else zz a k
def filZ (s : pS) (zz : Nat → Nat → Int64) (v s1 i : Int32) : Nat → Nat → Int64 := if inR v (s.1 0) = true then (if refS s s1 i (nlS s (cvS s (vN v))) = 0 then filB s zz (vN v) (vN s1) (vN i) (nlS s (cvS s (vN v))) else zz) else zz
def allB (p : Nat → Bool) : Nat → Bool
  | 0 => true
  | n + 1 => allB p n && p n
def isfB (s : pS) (zz : Nat → Nat → Int64) (v j p n : Nat) : Bool := decide (nlS s (cvS s v) = n) && allB (fun k => decide (zz j (p + k) &&& 255 = (s.2 5 (fndN (sdS s (cvS s v)) (s.1 4) k)).toInt64)) n
def isfA (s : pS) (zz : Nat → Nat → Int64) (v s1 i n : Int32) : Int32 := if inR v (s.1 0) = true ∧ inR s1 4 = true then (if n < 0 then aOUT else if refS s s1 i (vN n) = 0 then (if isfB s zz (vN v) (vN s1) (vN i) (vN n) = true then 1 else 0) else refS s s1 i (vN n)) else aUNK
theorem filB_0 (s : pS) (zz : Nat → Nat → Int64) (v j p : Nat) : filB s zz v j p 0 = zz := by
  funext a k
  unfold filB
  rw [if_neg (by omega)]
theorem allB_t {p : Nat → Bool} : ∀ {n : Nat}, (∀ k, k < n → p k = true) → allB p n = true
  | 0, _ => rfl
  | n + 1, h => by rw [allB, h n (by omega), allB_t (fun k hk => h k (by omega))]; rfl
theorem allB_f {p : Nat → Bool} {k : Nat} (hk : p k = false) : ∀ {n : Nat}, k < n → allB p n = false
  | 0, h => absurd h (Nat.not_lt_zero k)
  | n + 1, h => by
    rw [allB]
    by_cases e : k = n
    · rw [← e, hk]; exact Bool.and_false _
    · rw [allB_f hk (show k < n by omega)]; rfl
