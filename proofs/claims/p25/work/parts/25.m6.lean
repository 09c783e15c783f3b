/-- alike but for some scalars and some rows -/
def rel (S R : List Nat) (u w : oS) : Prop := (∀ k, k ∉ S → w.1 k = u.1 k) ∧ (∀ k, k ∉ R → w.2 k = u.2 k)
theorem rel.refl {S R : List Nat} (u : oS) : rel S R u u := ⟨fun _ _ => rfl, fun _ _ => rfl⟩
theorem rel.trans {S R : List Nat} {u v w : oS} (h : rel S R u v) (h2 : rel S R v w) : rel S R u w := ⟨fun k q => (h2.1 k q).trans (h.1 k q), fun k q => (h2.2 k q).trans (h.2 k q)⟩
theorem rel.mono {S R S' R' : List Nat} {u w : oS} (h : rel S R u w) (hS : ∀ k ∈ S, k ∈ S') (hR : ∀ k ∈ R, k ∈ R') : rel S' R' u w := ⟨fun k q => h.1 k (fun z => q (hS k z)), fun k q => h.2 k (fun z => q (hR k z))⟩
theorem rel.I {S R : List Nat} {u w : oS} {k : Nat} {x : Int32} (hk : k ∈ S) (h : rel S R u w) : rel S R u (oI w k x) := ⟨fun j q => by rw [oI_1, if_neg (fun e => q (by rw [e]; exact hk))]; exact h.1 j q, h.2⟩
theorem rel.A {S R : List Nat} {u w : oS} {k : Nat} {g : Nat → Int32} (hk : k ∈ R) (h : rel S R u w) : rel S R u (oA w k g) := ⟨h.1, fun j q => by rw [oA_2, if_neg (fun e => q (by rw [e]; exact hk))]; exact h.2 j q⟩
theorem oI_self {u : oS} {k : Nat} {x : Int32} (h : u.1 k = x) : oI u k x = u := by
  obtain ⟨a, b⟩ := u
  unfold oI
  simp only [Prod.mk.injEq, and_true]
  funext j
  by_cases e : j = k
  · subst e; rw [pk_us]; exact h.symm
  · rw [pk_un e]
/-- an image: the parents are copied so far, the other image stays -/
def imgI (f p o : Nat → Int32) (i k : Nat) : Prop := (∀ j, j < k → f (432 * i + j) = p j) ∧ (∀ j, j < 24 → f (432 * (1 - i) + j) = o (432 * (1 - i) + j))
theorem imgI_0 (p o : Nat → Int32) (i : Nat) : imgI o p o i 0 := ⟨fun j h => absurd h (Nat.not_lt_zero j), fun _ _ => rfl⟩
theorem imgI_a {f p o : Nat → Int32} {i k : Nat} {x y : Int32} (h : imgI f p o i k) (hk : k < 24) (hi : i ≤ 1) : imgI (upd (upd (upd f (432 * i + k) (p k)) (432 * i + 24 + k) x) (432 * i + 48 + k) y) p o i (k + 1) := by
  refine ⟨fun j hj => ?_, fun j hj => ?_⟩
  · rw [pk_un (by omega), pk_un (by omega)]
    by_cases e : j = k
    · subst e; rw [pk_us]
    · rw [pk_un (by omega)]; exact h.1 j (by omega)
  · rw [pk_un (by omega), pk_un (by omega), pk_un (by omega)]; exact h.2 j hj
theorem imgI_b {f p o : Nat → Int32} {i n k : Nat} {x y z : Int32} (h : imgI f p o i n) (hn : n ≤ 24) (hk : k < 120) (hi : i ≤ 1) : imgI (upd (upd (upd f (432 * i + 72 + k) x) (432 * i + 192 + k) y) (432 * i + 312 + k) z) p o i n := by
  refine ⟨fun j hj => ?_, fun j hj => ?_⟩
  · rw [pk_un (by omega), pk_un (by omega), pk_un (by omega)]; exact h.1 j hj
  · rw [pk_un (by omega), pk_un (by omega), pk_un (by omega)]; exact h.2 j hj
theorem imgI_end {u : oS} {f : Nat → Int32} {i1 nv nl : Nat} (himg : ∀ i, i < 2 → u.2 35 i = -1 ∨ ∃ n q, n ≤ 24 ∧ q ≤ 120 ∧ u.2 35 i = nI n ∧ u.2 36 i = nI q ∧ parOK (fun j => u.2 37 (432 * i + j)) n) (hf : imgI f (u.2 1) (u.2 37) i1 nv) (hp : parOK (u.2 1) nv) (hi : i1 ≤ 1) (hv : nv ≤ 24) (hl : nl ≤ 120) :
    ∀ i, i < 2 → upd (u.2 35) i1 (nI nv) i = -1 ∨ ∃ n q, n ≤ 24 ∧ q ≤ 120 ∧ upd (u.2 35) i1 (nI nv) i = nI n ∧ upd (u.2 36) i1 (nI nl) i = nI q ∧ parOK (fun j => f (432 * i + j)) n := by
  intro i hi2
  by_cases e : i = i1
  · subst e
    refine Or.inr ⟨nv, nl, hv, hl, pk_us, pk_us, fun j hj => ?_⟩
    show f (432 * i + j) = -1 ∨ ∃ t, t < j ∧ f (432 * i + j) = nI t
    rw [hf.1 j hj]
    exact hp j hj
  · rw [pk_un e, pk_un e]
    have e2 : i = 1 - i1 := by omega
    rcases himg i hi2 with h | ⟨n, q, a, b, c, d, g⟩
    · exact Or.inl h
    · refine Or.inr ⟨n, q, a, b, c, d, fun j hj => ?_⟩
      show f (432 * i + j) = -1 ∨ ∃ t, t < j ∧ f (432 * i + j) = nI t
      have := hf.2 j (by omega)
      rw [← e2] at this
      rw [this]
      exact g j hj
theorem cpA {f g : Nat → Int32} {k : Nat} {x : Int32} (h : ∀ j, j < k → f j = g j) (hx : x = g k) : ∀ j, j < k + 1 → upd f k x j = g j := by
  intro j hj
  by_cases e : j = k
  · subst e; rw [pk_us]; exact hx
  · rw [pk_un e]; exact h j (by omega)

