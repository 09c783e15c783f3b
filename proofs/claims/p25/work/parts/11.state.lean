/-! what the objects hold: scalar fields and arrays by the fields' numbers -/
abbrev oS : Type := (Nat → Int32) × (Nat → Nat → Int32)
def oI (u : oS) (k : Nat) (x : Int32) : oS := (upd u.1 k x, u.2)
def oA (u : oS) (k : Nat) (g : Nat → Int32) : oS := (u.1, va_up u.2 k g)
theorem oI_1 (u : oS) (k j : Nat) (x : Int32) : (oI u k x).1 j = if j = k then x else u.1 j := rfl
theorem oI_2 (u : oS) (k j : Nat) (x : Int32) : (oI u k x).2 j = u.2 j := rfl
theorem oA_1 (u : oS) (k j : Nat) (g : Nat → Int32) : (oA u k g).1 j = u.1 j := rfl
theorem oA_2 (u : oS) (k j : Nat) (g : Nat → Int32) : (oA u k g).2 j = if j = k then g else u.2 j := rfl
/-- a Weave: the object, its arrays -/
def wv (G : gG) (h : Nat → Nat) (w : oS) : va_W :=
  [(h 0, .inr (3, [.int (w.1 0), .ref (h 1), .ref (h 2), .ref (h 3), .ref (h 4), .int (w.1 5), .ref (h 6), .ref (h 7), .ref (h 8)])),
   (h 1, .inl (G.2.2 0, 24, .inl (w.2 1))), (h 2, .inl (G.2.2 0, 24, .inl (w.2 2))), (h 3, .inl (G.2.2 0, 24, .inl (w.2 3))), (h 4, .inl (G.2.2 0, 24, .inl (w.2 4))),
   (h 6, .inl (G.2.2 0, 120, .inl (w.2 6))), (h 7, .inl (G.2.2 0, 120, .inl (w.2 7))), (h 8, .inl (G.2.2 0, 120, .inl (w.2 8)))]
/-- a Reader, with the Weave of its own -/
def rv (G : gG) (h : Nat → Nat) (r w : oS) : va_W :=
  [(h 0, .inr (1, [.ref (h 1), .int (r.1 1), .int (r.1 2), .int (r.1 3), .int (r.1 4), .int (r.1 5), .ref (h 7), .ref (h 8), .int (r.1 8), .ref (h 10)])),
   (h 1, .inl (G.2.2 0, 240, .inl (r.2 0))), (h 7, .inl (G.2.2 2, 48, .inl (r.2 6))), (h 8, .inl (G.2.2 0, 48, .inl (r.2 7)))] ++ wv G (fun k => h (10 + k)) w
/-- Sheets: the object, the rows, their sizes -/
def sv (G : gG) (h : Nat → Nat) (z : oS) (jj : Nat → Nat → Int64) : va_W :=
  [(h 0, .inr (2, [.ref (h 1), .ref (h 2)])), (h 1, .inl (G.2.2 4, 4, .inr (.inr (.inr (.inr (fun i => some (h (3 + i)))))))), (h 2, .inl (G.2.2 0, 4, .inl (z.2 1))),
   (h 3, .inl (G.2.2 1, 40, .inr (.inl (jj 0)))), (h 4, .inl (G.2.2 1, 40, .inr (.inl (jj 1)))), (h 5, .inl (G.2.2 1, 40, .inr (.inl (jj 2)))), (h 6, .inl (G.2.2 1, 40, .inr (.inl (jj 3))))]
/-- Lots -/
def tv (G : gG) (h : Nat → Nat) (lt : Int64) : va_W := [(h 0, .inr (0, [.long lt]))]
/-- the reference: the object, its arrays -/
def mw (G : gG) (h : Nat → Nat) (u : oS) (lt : Int64) (sj : Nat → Int64) : va_W :=
  [(h 0, .inr (5, [.int (u.1 0), .ref (h 1), .ref (h 2), .ref (h 3), .int (u.1 4), .ref (h 5), .ref (h 6), .ref (h 7), .int (u.1 8), .ref (h 9), .int (u.1 10), .int (u.1 11), .int (u.1 12), .int (u.1 13), .int (u.1 14), .int (u.1 15), .ref (h 16), .ref (h 17), .ref (h 18), .int (u.1 19), .ref (h 20), .ref (h 21), .ref (h 22), .int (u.1 23), .ref (h 24), .ref (h 25), .ref (h 26), .int (u.1 27), .ref (h 28), .ref (h 29), .ref (h 30), .long lt, .ref (h 32), .ref (h 33), .ref (h 34), .ref (h 35), .ref (h 36), .ref (h 37)])),
   (h 1, .inl (G.2.2 0, 25, .inl (u.2 1))), (h 2, .inl (G.2.2 0, 25, .inl (u.2 2))), (h 3, .inl (G.2.2 0, 25, .inl (u.2 3))),
   (h 5, .inl (G.2.2 0, 120, .inl (u.2 5))), (h 6, .inl (G.2.2 0, 120, .inl (u.2 6))), (h 7, .inl (G.2.2 0, 120, .inl (u.2 7))), (h 9, .inl (G.2.2 0, 240, .inl (u.2 9))),
   (h 16, .inl (G.2.2 0, 24, .inl (u.2 16))), (h 17, .inl (G.2.2 0, 24, .inl (u.2 17))), (h 18, .inl (G.2.2 0, 24, .inl (u.2 18))),
   (h 20, .inl (G.2.2 0, 120, .inl (u.2 20))), (h 21, .inl (G.2.2 0, 120, .inl (u.2 21))), (h 22, .inl (G.2.2 0, 120, .inl (u.2 22))),
   (h 24, .inl (G.2.2 0, 240, .inl (u.2 24))), (h 25, .inl (G.2.2 2, 240, .inl (u.2 25))), (h 26, .inl (G.2.2 0, 25, .inl (u.2 26))),
   (h 28, .inl (G.2.2 0, 120, .inl (u.2 28))), (h 29, .inl (G.2.2 0, 120, .inl (u.2 29))), (h 30, .inl (G.2.2 0, 120, .inl (u.2 30))),
   (h 32, .inl (G.2.2 2, 4, .inl (u.2 32))), (h 33, .inl (G.2.2 0, 4, .inl (u.2 33))), (h 34, .inl (G.2.2 1, 160, .inr (.inl sj))),
   (h 35, .inl (G.2.2 0, 2, .inl (u.2 35))), (h 36, .inl (G.2.2 0, 2, .inl (u.2 36))), (h 37, .inl (G.2.2 0, 864, .inl (u.2 37)))]
abbrev mS : Type := oS × Int64 × (Nat → Int64)
/-- the class: the object, images, kept, five Weaves, Reader, Sheets, Lots -/
def xw (G : gG) (h : Nat → Nat) (x wn wa w0 w1 r wr z : oS) (jj : Nat → Nat → Int64) (lt : Int64) : va_W :=
  [(h 0, .inr (4, [.ref (h 10), .ref (h 20), .ref (h 2), .ref (h 3), .ref (h 50), .ref (h 70), .ref (h 80), .int (x.1 7), .int (x.1 8)])),
   (h 2, .inl (G.2.2 3, 2, .inr (.inr (.inr (.inr (fun i => some (h (30 + 10 * i)))))))), (h 3, .inl (G.2.2 2, 2, .inl (x.2 3)))]
  ++ wv G (fun k => h (10 + k)) wn ++ wv G (fun k => h (20 + k)) wa ++ wv G (fun k => h (30 + k)) w0 ++ wv G (fun k => h (40 + k)) w1 ++ rv G (fun k => h (50 + k)) r wr ++ sv G (fun k => h (70 + k)) z jj ++ tv G (fun k => h (80 + k)) lt
abbrev xS : Type := oS × oS × oS × oS × oS × oS × oS × oS × (Nat → Nat → Int64) × Int64
/-- how many of the first n have p -/
def cnt (p : Nat → Bool) : Nat → Nat
  | 0 => 0
  | n + 1 => cnt p n + (if p n then 1 else 0)
theorem cnt_le (p : Nat → Bool) : ∀ n, cnt p n ≤ n
  | 0 => Nat.le_refl 0
  | n + 1 => by
    have := cnt_le p n
    simp only [cnt]
    split <;> omega
theorem cnt_mono (p : Nat → Bool) {a b : Nat} (h : a ≤ b) : cnt p a ≤ cnt p b := by
  induction b with
  | zero => rw [Nat.le_zero.mp h]; exact Nat.le_refl _
  | succ n ih =>
    by_cases e : a = n + 1
    · subst e; exact Nat.le_refl _
    · have := ih (by omega)
      simp only [cnt]
      omega
theorem cnt_t {p : Nat → Bool} {n : Nat} (h : p n = true) : cnt p (n + 1) = cnt p n + 1 := by simp only [cnt, h, if_true]
theorem cnt_f {p : Nat → Bool} {n : Nat} (h : p n = false) : cnt p (n + 1) = cnt p n := by simp [cnt, h]
/-- a line stands -/
def sdb (br tk : Nat → Int32) (cs : Int32) (i : Nat) : Bool := decide ((cs >>> (br i &&& 31)) &&& 1 = 1) && decide (tk i &&& cs = 0)
theorem sdb_t {br tk : Nat → Int32} {cs : Int32} {i : Nat} (h1 : (cs >>> (br i &&& 31)) &&& 1 = 1) (h2 : tk i &&& cs = 0) : sdb br tk cs i = true := by simp [sdb, h1, h2]
theorem sdb_f1 {br tk : Nat → Int32} {cs : Int32} {i : Nat} (h1 : ¬ (cs >>> (br i &&& 31)) &&& 1 = 1) : sdb br tk cs i = false := by simp [sdb, h1]
theorem sdb_f2 {br tk : Nat → Int32} {cs : Int32} {i : Nat} (h2 : ¬ tk i &&& cs = 0) : sdb br tk cs i = false := by simp [sdb, h2]
theorem oA_self (u : oS) (k : Nat) : oA u k (u.2 k) = u := by
  obtain ⟨a, b⟩ := u
  simp only [oA, Prod.mk.injEq, true_and]
  funext j
  unfold va_up
  split
  · subst_vars; rfl
  · rfl
theorem oA_oA (u : oS) (k : Nat) (f g : Nat → Int32) : oA (oA u k f) k g = oA u k g := by
  simp only [oA, Prod.mk.injEq, true_and]
  funext j
  unfold va_up
  split <;> rfl
/-- each goes on from an older one, or from none -/
def parOK (f : Nat → Int32) (n : Nat) : Prop := ∀ i, i < n → f i = -1 ∨ ∃ t, t < i ∧ f i = nI t
theorem parOK.le {f : Nat → Int32} {n m : Nat} (h : parOK f n) (hm : m ≤ n) : parOK f m := fun i hi => h i (by omega)
/-- a new block begins -/
def nbb (br tk : Nat → Int32) (i : Nat) : Bool := decide (i = 0) || decide (¬ br i = br (i - 1)) || decide (¬ tk i = tk (i - 1))
/-- the first n out of f, the others as they were -/
def cpr (f g : Nat → Int32) (n : Nat) : Nat → Int32 := fun j => if j < n then f j else g j
theorem cpr_0 (f g : Nat → Int32) : cpr f g 0 = g := by funext j; simp [cpr]
theorem cpr_s (f g : Nat → Int32) (k : Nat) : upd (cpr f g k) k (f k) = cpr f g (k + 1) := by
  funext j
  by_cases e : j = k
  · subst e; rw [pk_us]; simp [cpr]
  · rw [pk_un e]
    unfold cpr
    by_cases h : j < k
    · rw [if_pos h, if_pos (by omega)]
    · rw [if_neg h, if_neg (by omega)]
/-- two rows -/
def aw (G : gG) (a b n1 n2 : Nat) (f g : Nat → Int32) : va_W := [(a, .inl (G.2.2 0, n1, .inl f)), (b, .inl (G.2.2 0, n2, .inl g))]
/-- what the reference keeps to -/
def MIx (u : oS) (nv nl nt nh : Nat) : Prop := u.1 0 = nI nv ∧ u.1 4 = nI nl ∧ u.1 10 = nI nt ∧ u.1 27 = nI nh ∧ nv ≤ 24 ∧ nl ≤ 120 ∧ nt ≤ 240 ∧ nh ≤ 120 ∧ (u.1 8 = 0 ∨ u.1 8 = 1) ∧ (u.1 8 = 1 → nv < 24 ∧ parOK (u.2 1) (nv + 1)) ∧ parOK (u.2 1) nv ∧ (∀ j, j < 4 → ∃ z, z ≤ 40 ∧ u.2 33 j = nI z) ∧ (∀ i, i < 2 → u.2 35 i = -1 ∨ ∃ n q, n ≤ 24 ∧ q ≤ 120 ∧ u.2 35 i = nI n ∧ u.2 36 i = nI q ∧ parOK (fun j => u.2 37 (432 * i + j)) n)
def MIp (u : oS) : Prop := ∃ nv nl nt nh, MIx u nv nl nt nh
/-- the sheets' sizes and the letters' number stay -/
def kpt (u v : oS) : Prop := v.2 32 = u.2 32 ∧ v.2 33 = u.2 33 ∧ v.1 10 = u.1 10
theorem kpt.refl (u : oS) : kpt u u := ⟨rfl, rfl, rfl⟩
theorem kpt.trans {u v w : oS} (h : kpt u v) (h2 : kpt v w) : kpt u w := ⟨h2.1.trans h.1, h2.2.1.trans h.2.1, h2.2.2.trans h.2.2⟩
/-- the letters and the place of the latest fault stay, too -/
def kp5 (u v : oS) : Prop := kpt u v ∧ v.2 9 = u.2 9 ∧ v.1 11 = u.1 11
theorem kp5.refl (u : oS) : kp5 u u := ⟨kpt.refl u, rfl, rfl⟩
theorem kp5.trans {u v w : oS} (h : kp5 u v) (h2 : kp5 v w) : kp5 u w := ⟨h.1.trans h2.1, h2.2.1.trans h.2.1, h2.2.2.trans h.2.2⟩
def MIk (u v : oS) : Prop := MIp v ∧ kp5 u v
/-- the reference, one opened that goes on from x -/
def opU (u : oS) (nv nl : Nat) (x : Int32) : oS := oA (oA (oA (oI (oA (oA (oA (oI u 27 (nI nl)) 28 (cpr (u.2 5) (u.2 28) nl)) 29 (cpr (u.2 6) (u.2 29) nl)) 30 (cpr (u.2 7) (u.2 30) nl)) 8 (nI 1)) 1 (upd (u.2 1) nv x)) 2 (upd (u.2 2) nv (nI 0))) 3 (upd (u.2 3) nv (nI 0))
theorem parOK_upd {f : Nat → Int32} {n : Nat} {x : Int32} (h : parOK f n) (hx : x = -1 ∨ ∃ t, t < n ∧ x = nI t) : parOK (upd f n x) (n + 1) := by
  intro i hi
  by_cases e : i = n
  · subst e; rw [pk_us]; exact hx
  · rw [pk_un e]; exact h i (by omega)
theorem MIx_open {u : oS} {nv nl nt nh : Nat} {x : Int32} (h : MIx u nv nl nt nh) (hlt : nv < 24) (hx : x = -1 ∨ ∃ t, t < nv ∧ x = nI t) : MIx (opU u nv nl x) nv nl nt nl := by
  obtain ⟨h1, h2, h3, h4, h5, h6, h7, h8, h9, h10, h11, h12, h13⟩ := h
  exact ⟨h1, h2, h3, rfl, h5, h6, h7, h6, Or.inr rfl, fun _ => ⟨hlt, parOK_upd h11 hx⟩, (parOK_upd h11 hx).le (by omega), h12, h13⟩
theorem mw_self26 {G : gG} {h : Nat → Nat} {u : oS} {lt : Int64} {sj : Nat → Int64} {H : Heap} (hP : PP G (mw G h u lt sj) H) : PP G (mw G h (oA u 26 (u.2 26)) lt sj) H := by rw [oA_self]; exact hP
theorem mw_self26D {G : gG} {A : Nat → Prop} {h : Nat → Nat} {u : oS} {lt : Int64} {sj : Nat → Int64} (hD : va_D A (mw G h u lt sj)) : va_D A (mw G h (oA u 26 (u.2 26)) lt sj) := by rw [oA_self]; exact hD
/-- the changes of a version, out of those of the one it goes on from -/
def chF (inc exc : Nat → Int32) (c : Nat) (x : Int32) : Int32 := ((x ||| inc c) &&& (exc c ^^^ (-1))) ||| ((1 : Int32) <<< (nI c &&& 31))
def chG (par inc exc : Nat → Int32) : Nat → Int32 → Int32
  | 0, _ => 0
  | f + 1, y => if y < 0 then 0 else chF inc exc y.toNatClampNeg (chG par inc exc f (par y.toNatClampNeg))
def chV (par inc exc : Nat → Int32) (y : Int32) : Int32 := chG par inc exc 25 y
theorem chG_m1 (par inc exc : Nat → Int32) (f : Nat) : chG par inc exc f (-1) = 0 := by
  cases f with
  | zero => rfl
  | succ f => rw [chG, if_pos (by decide)]
theorem chG_s {par inc exc : Nat → Int32} {f i : Nat} (hi : i < 2 ^ 31) : chG par inc exc (f + 1) (nI i) = chF inc exc i (chG par inc exc f (par i)) := by
  rw [chG, if_neg (nI_pos hi), nI_clamp hi]
theorem chG_eq {par inc exc : Nat → Int32} : ∀ (i f g : Nat), i < f → i < g → i < 2 ^ 31 → parOK par (i + 1) → chG par inc exc f (nI i) = chG par inc exc g (nI i) := by
  intro i
  induction i using Nat.strongRecOn with
  | ind i ih =>
    intro f g hf hg hi hp
    obtain ⟨f, rfl⟩ : ∃ k, f = k + 1 := ⟨f - 1, by omega⟩
    obtain ⟨g, rfl⟩ : ∃ k, g = k + 1 := ⟨g - 1, by omega⟩
    rw [chG_s hi, chG_s hi]
    rcases hp i (by omega) with e | ⟨t, ht, e⟩
    · rw [e, chG_m1, chG_m1]
    · rw [e, ih t ht f g (by omega) (by omega) (by omega) (hp.le (by omega))]
theorem chV_m1 (par inc exc : Nat → Int32) : chV par inc exc (-1) = 0 := chG_m1 _ _ _ _
theorem chV_s {par inc exc : Nat → Int32} {i : Nat} (hi : i ≤ 24) (hp : parOK par (i + 1)) : chV par inc exc (nI i) = chF inc exc i (chV par inc exc (par i)) := by
  unfold chV
  rw [chG_s (f := 24) (by omega)]
  rcases hp i (by omega) with e | ⟨t, ht, e⟩
  · rw [e, chG_m1, chG_m1]
  · rw [e, chG_eq t 24 25 (by omega) (by omega) (by omega) (hp.le (by omega))]
/-- the way up that the chain holds -/
def chI (par inc exc g : Nat → Int32) (mm : Nat) (y : Int32) : Prop := ∀ k, k < mm → ∃ c, c ≤ 24 ∧ g k = nI c ∧ chV par inc exc (g k) = chF inc exc c (chV par inc exc (if k + 1 = mm then y else g (k + 1)))
theorem chI_0 {par inc exc g : Nat → Int32} {y : Int32} : chI par inc exc g 0 y := fun k hk => absurd hk (Nat.not_lt_zero k)
theorem chI_step {par inc exc g : Nat → Int32} {mm i : Nat} (h : chI par inc exc g mm (nI i)) (hi : i ≤ 24) (hp : parOK par (i + 1)) : chI par inc exc (upd g mm (nI i)) (mm + 1) (par i) := by
  intro k hk
  by_cases e : k = mm
  · subst e
    refine ⟨i, hi, pk_us, ?_⟩
    rw [pk_us, if_pos rfl]
    exact chV_s hi hp
  · obtain ⟨c, h1, h2, h3⟩ := h k (by omega)
    refine ⟨c, h1, by rw [pk_un e]; exact h2, ?_⟩
    rw [pk_un e, h3, if_neg (show ¬ k + 1 = mm + 1 by omega)]
    by_cases e2 : k + 1 = mm
    · rw [if_pos e2, e2, pk_us]
    · rw [if_neg e2, pk_un e2]
def chS (g : Nat → Int32) (mm : Nat) (y : Int32) (j : Nat) : Prop := (mm = 0 → y = nI j) ∧ (0 < mm → g 0 = nI j)
theorem chS_step {g : Nat → Int32} {mm i j : Nat} {y : Int32} (h : chS g mm (nI i) j) : chS (upd g mm (nI i)) (mm + 1) y j := by
  refine ⟨fun q => absurd q (by omega), fun _ => ?_⟩
  by_cases e : mm = 0
  · rw [e, pk_us, h.1 e]
  · rw [pk_un (fun q => e q.symm)]
    exact h.2 (by omega)
theorem chS_end {V : Int32 → Int32} {g : Nat → Int32} {mm j : Nat} {x y : Int32} (h : chS g mm y j) (hx : x = V (if 0 = mm then y else g 0)) : x = V (nI j) := by
  rw [hx]
  by_cases e : 0 = mm
  · rw [if_pos e, ← h.1 e.symm]
  · rw [if_neg e, h.2 (by omega)]
/-- three rows of lines -/
def ln3 (u : oS) (f5 f6 f7 : Nat → Int32) : oS := oA (oA (oA u 5 f5) 6 f6) 7 f7
theorem ln3_w (u : oS) (f5 f6 f7 x5 x6 x7 : Nat → Int32) : oA (oA (oA (ln3 u f5 f6 f7) 5 x5) 6 x6) 7 x7 = ln3 u x5 x6 x7 := by
  unfold ln3 oA
  simp only [Prod.mk.injEq, true_and]
  funext j
  unfold va_up
  by_cases h7 : j = 7
  · simp [h7]
  · by_cases h6 : j = 6
    · simp [h6]
    · by_cases h5 : j = 5
      · simp [h5]
      · simp [h5, h6, h7]
theorem ln3_7 (u : oS) (x : Nat → Int32) : oA u 7 x = ln3 u (u.2 5) (u.2 6) x := by
  unfold ln3 oA
  simp only [Prod.mk.injEq, true_and]
  funext j
  unfold va_up
  by_cases h7 : j = 7
  · simp [h7]
  · by_cases h6 : j = 6
    · simp [h6]
    · by_cases h5 : j = 5
      · simp [h5]
      · simp [h5, h6, h7]
/-- alike but for the lines -/
def lnE (u v : oS) : Prop := (∀ k, k ≠ 4 → v.1 k = u.1 k) ∧ (∀ k, k ≠ 5 → k ≠ 6 → k ≠ 7 → k ≠ 26 → v.2 k = u.2 k)
theorem lnE.refl (u : oS) : lnE u u := ⟨fun _ _ => rfl, fun _ _ _ _ _ => rfl⟩
theorem lnE.trans {u v w : oS} (h : lnE u v) (h2 : lnE v w) : lnE u w := ⟨fun k hk => (h2.1 k hk).trans (h.1 k hk), fun k a b c d => (h2.2 k a b c d).trans (h.2 k a b c d)⟩
theorem lnE.kp {u v : oS} (h : lnE u v) : kpt u v := ⟨h.2 32 (by decide) (by decide) (by decide) (by decide), h.2 33 (by decide) (by decide) (by decide) (by decide), h.1 10 (by decide)⟩

theorem lnE_ch (u : oS) (g : Nat → Int32) : lnE u (oA u 26 g) := ⟨fun _ _ => rfl, fun k _ _ _ d => by rw [oA_2, if_neg d]⟩
theorem lnE_3 (u : oS) (f5 f6 f7 : Nat → Int32) : lnE u (ln3 u f5 f6 f7) := ⟨fun _ _ => rfl, fun k a b c _ => by unfold ln3; rw [oA_2, if_neg c, oA_2, if_neg b, oA_2, if_neg a]⟩
theorem lnE_4 (u : oS) (x : Int32) : lnE u (oI u 4 x) := ⟨fun k hk => by rw [oI_1, if_neg hk], fun _ _ _ _ _ => rfl⟩
theorem MIx_ln {u v : oS} {nv nl nt nh n : Nat} (h : MIx u nv nl nt nh) (hE : lnE u v) (hn : v.1 4 = nI n) (hn2 : n ≤ 120) : MIx v nv n nt nh := by
  obtain ⟨h1, h2, h3, h4, h5, h6, h7, h8, h9, h10, h11, h12, h13⟩ := h
  have e1 := hE.2 1 (by decide) (by decide) (by decide) (by decide)
  have e33 := hE.2 33 (by decide) (by decide) (by decide) (by decide)
  have e35 := hE.2 35 (by decide) (by decide) (by decide) (by decide)
  have e36 := hE.2 36 (by decide) (by decide) (by decide) (by decide)
  have e37 := hE.2 37 (by decide) (by decide) (by decide) (by decide)
  refine ⟨(hE.1 0 (by decide)).trans h1, hn, (hE.1 10 (by decide)).trans h3, (hE.1 27 (by decide)).trans h4, h5, hn2, h7, h8, ?_, ?_, ?_, ?_, ?_⟩
  · rw [hE.1 8 (by decide)]; exact h9
  · rw [hE.1 8 (by decide), e1]; exact h10
  · rw [e1]; exact h11
  · rw [e33]; exact h12
  · rw [e35, e36, e37]; exact h13
theorem MIx_close {u : oS} {nv nl nt nh : Nat} (h : MIx u nv nl nt nh) (ho : u.1 8 = 1) : MIx (oI (oI u 8 (nI 0)) 0 (nI (nv + 1))) (nv + 1) nl nt nh := by
  obtain ⟨h1, h2, h3, h4, h5, h6, h7, h8, h9, h10, h11, h12, h13⟩ := h
  obtain ⟨a, b⟩ := h10 ho
  exact ⟨rfl, h2, h3, h4, a, h6, h7, h8, Or.inl rfl, fun e => absurd e (show ¬ nI 0 = 1 by decide), b, h12, h13⟩
theorem cnt_lt {p : Nat → Bool} {a b : Nat} (h : cnt p a < cnt p b) : a < b := by
  rcases Nat.lt_or_ge a b with q | q
  · exact q
  · have := cnt_mono p q; omega
theorem sz4_upd {f : Nat → Int32} {i n : Nat} (h : ∀ j, j < 4 → ∃ z, z ≤ 40 ∧ f j = nI z) (hn : n ≤ 40) : ∀ j, j < 4 → ∃ z, z ≤ 40 ∧ upd f i (nI n) j = nI z := by
  intro j hj
  by_cases e : j = i
  · subst e; exact ⟨n, hn, pk_us⟩
  · rw [pk_un e]; exact h j hj
theorem MIx_drift {u w : oS} {nv nl nt nh n : Nat} {x : Int32} (h : MIx u nv nl nt nh) (hlt : nv < 24) (hx : x = -1 ∨ ∃ t, t < nv ∧ x = nI t) (hE : lnE (opU u nv nl x) w) (hn : w.1 4 = nI n) (hn2 : n ≤ 120) : MIx (oI (oI w 8 (nI 0)) 0 (nI (nv + 1))) (nv + 1) n nt nl :=
  MIx_close (MIx_ln (MIx_open h hlt hx) hE hn hn2) ((hE.1 8 (by decide)).trans rfl)
