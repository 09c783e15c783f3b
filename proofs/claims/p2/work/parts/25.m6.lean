/-- alike but for some scalars and some rows -/
def rel (S R : List Nat) (u w : oS) : Prop := (∀ k, k ∉ S → w.1 k = u.1 k) ∧ (∀ k, k ∉ R → w.2 k = u.2 k)
theorem rel.refl {S R : List Nat} (u : oS) : rel S R u u := ⟨fun _ _ => rfl, fun _ _ => rfl⟩
theorem rel.trans {S R : List Nat} {u v w : oS} (h : rel S R u v) (h2 : rel S R v w) : rel S R u w := ⟨fun k q => (h2.1 k q).trans (h.1 k q), fun k q => (h2.2 k q).trans (h.2 k q)⟩
theorem rel.mono {S R S' R' : List Nat} {u w : oS} (h : rel S R u w) (hS : ∀ k ∈ S, k ∈ S') (hR : ∀ k ∈ R, k ∈ R') : rel S' R' u w := ⟨fun k q => h.1 k (fun z => q (hS k z)), fun k q => h.2 k (fun z => q (hR k z))⟩
theorem rel.I {S R : List Nat} {u w : oS} {k : Nat} {x : Int32} (hk : k ∈ S) (h : rel S R u w) : rel S R u (oI w k x) := ⟨fun j q => by rw [oI_1, if_neg (fun e => q (by rw [e]; exact hk))]; exact h.1 j q, h.2⟩
theorem rel.A {S R : List Nat} {u w : oS} {k : Nat} {g : Nat → Int32} (hk : k ∈ R) (h : rel S R u w) : rel S R u (oA w k g) := ⟨h.1, fun j q => by rw [oA_2, if_neg (fun e => q (by rw [e]; exact hk))]; exact h.2 j q⟩
theorem oI_self {u : oS} {k : Nat} {x : Int32} (h : u.1 k = x) : oI u k x = u := by
  obtain ⟨a, b⟩ := u
  unfold oI
  simp only [Prod.mk.injEq, and_true]
  funext j
  by_cases e : j = k
  · subst e; rw [pk_us]; exact h.symm
  · rw [pk_un e]
/-- an image: the parents are copied so far, the other image stays -/
def imgI (f p o : Nat → Int32) (i k : Nat) : Prop := (∀ j, j < k → f (432 * i + j) = p j) ∧ (∀ j, j < 24 → f (432 * (1 - i) + j) = o (432 * (1 - i) + j))
theorem imgI_0 (p o : Nat → Int32) (i : Nat) : imgI o p o i 0 := ⟨fun j h => absurd h (Nat.not_lt_zero j), fun _ _ => rfl⟩
theorem imgI_a {f p o : Nat → Int32} {i k : Nat} {x y : Int32} (h : imgI f p o i k) (hk : k < 24) (hi : i ≤ 1) : imgI (upd (upd (upd f (432 * i + k) (p k)) (432 * i + 24 + k) x) (432 * i + 48 + k) y) p o i (k + 1) := by
  refine ⟨fun j hj => ?_, fun j hj => ?_⟩
  · rw [pk_un (by omega), pk_un (by omega)]
    by_cases e : j = k
    · subst e; rw [pk_us]
    · rw [pk_un (by omega)]; exact h.1 j (by omega)
  · rw [pk_un (by omega), pk_un (by omega), pk_un (by omega)]; exact h.2 j hj
theorem imgI_b {f p o : Nat → Int32} {i n k : Nat} {x y z : Int32} (h : imgI f p o i n) (hn : n ≤ 24) (hk : k < 120) (hi : i ≤ 1) : imgI (upd (upd (upd f (432 * i + 72 + k) x) (432 * i + 192 + k) y) (432 * i + 312 + k) z) p o i n := by
  refine ⟨fun j hj => ?_, fun j hj => ?_⟩
  · rw [pk_un (by omega), pk_un (by omega), pk_un (by omega)]; exact h.1 j hj
  · rw [pk_un (by omega), pk_un (by omega), pk_un (by omega)]; exact h.2 j hj
theorem imgI_end {u : oS} {f : Nat → Int32} {i1 nv nl : Nat} (himg : ∀ i, i < 2 → u.2 35 i = -1 ∨ ∃ n q, n ≤ 24 ∧ q ≤ 120 ∧ u.2 35 i = nI n ∧ u.2 36 i = nI q ∧ parOK (fun j => u.2 37 (432 * i + j)) n) (hf : imgI f (u.2 1) (u.2 37) i1 nv) (hp : parOK (u.2 1) nv) (hi : i1 ≤ 1) (hv : nv ≤ 24) (hl : nl ≤ 120) :
    ∀ i, i < 2 → upd (u.2 35) i1 (nI nv) i = -1 ∨ ∃ n q, n ≤ 24 ∧ q ≤ 120 ∧ upd (u.2 35) i1 (nI nv) i = nI n ∧ upd (u.2 36) i1 (nI nl) i = nI q ∧ parOK (fun j => f (432 * i + j)) n := by
  intro i hi2
  by_cases e : i = i1
  · subst e
    refine Or.inr ⟨nv, nl, hv, hl, pk_us, pk_us, fun j hj => ?_⟩
    show f (432 * i + j) = -1 ∨ ∃ t, t < j ∧ f (432 * i + j) = nI t
    rw [hf.1 j hj]
    exact hp j hj
  · rw [pk_un e, pk_un e]
    have e2 : i = 1 - i1 := by omega
    rcases himg i hi2 with h | ⟨n, q, a, b, c, d, g⟩
    · exact Or.inl h
    · refine Or.inr ⟨n, q, a, b, c, d, fun j hj => ?_⟩
      show f (432 * i + j) = -1 ∨ ∃ t, t < j ∧ f (432 * i + j) = nI t
      have := hf.2 j (by omega)
      rw [← e2] at this
      rw [this]
      exact g j hj
theorem cpA {f g : Nat → Int32} {k : Nat} {x : Int32} (h : ∀ j, j < k → f j = g j) (hx : x = g k) : ∀ j, j < k + 1 → upd f k x j = g j := by
  intro j hj
  by_cases e : j = k
  · subst e; rw [pk_us]; exact hx
  · rw [pk_un e]; exact h j (by omega)

set_option maxHeartbeats 1000000 in
set_option maxRecDepth 100000 in
theorem mt_X5_keep (l : Launch) (G : gG) (h : Nat → Nat) (sz : Nat) (u : oS) (lt : Int64) (sj : Nat → Int64) (i : Int32) (nv nl nt nh : Nat) (hI : MIx u nv nl nt nh) : Met l yX5_keep wsX5_keep ({ frames := 1, cells := 0, slots := 0, locals := 25 }) (preW G (mw G h u lt sj) sz [.ref (h 0), .int i]) (va_Qi (fun (r : Int32) (v : oS × Int64 × (Nat → Int64)) => MIk u v.1) (fun v t => PP G (mw G h v.1 v.2.1 v.2.2) t.heap) (va_A (mw G h u lt sj) sz)) 0 0 (va_A (mw G h u lt sj) sz) := by
  refine Met.ofW (cc := cX5_keep) (maxL := 4) (ret := (some .int)) (by decide) rfl ?_
  intro p e s m args below meth c s₁ B hml hv
  obtain ⟨ha, hsz, hP, hK, hN, hD0⟩ := hv
  subst ha
  have hx := B.exec
  have hb := B.bytes
  have hr := B.returns
  have hts := atoms_spec (ws := wsX5_keep) B.pre
  have hown : s.vm.findClass RX5 = some m.cls := findClass_of_methodNamed B.named
  have hlocks := B.notSynchronized
  subst hsz
  have hD := hD0.self (sz := s.heap.size)
  generalize hAe : va_A (mw G h u lt sj) s.heap.size = A at hD ⊢
  have hA : ∀ q : Nat, s.heap.size ≤ q → A q := fun q h => by rw [← hAe]; exact Or.inr h
  clear hAe hD0
  have hS : va_S A s.heap s.heap [] := va_S.rf
  have hiX5 : ∀ w ∈ wsX50, w ∈ wsX5_keep := by decide +kernel
  have k178 := hts (.fieldLink RX5 178 "WovenHistoryModel" "isOpen" "Z") (List.mem_of_getElem? (i := 2) rfl)
  have k82 := hts (.fieldLink RX5 82 "WovenHistoryModel" "keptVersions" "[I") (List.mem_of_getElem? (i := 4) rfl)
  have k91 := hts (.fieldLink RX5 91 "WovenHistoryModel" "versions" "I") (List.mem_of_getElem? (i := 5) rfl)
  have k85 := hts (.fieldLink RX5 85 "WovenHistoryModel" "keptLines" "[I") (List.mem_of_getElem? (i := 6) rfl)
  have k175 := hts (.fieldLink RX5 175 "WovenHistoryModel" "lines" "I") (List.mem_of_getElem? (i := 7) rfl)
  have k88 := hts (.fieldLink RX5 88 "WovenHistoryModel" "images" "[I") (List.mem_of_getElem? (i := 8) rfl)
  have k7 := hts (.fieldLink RX5 7 "WovenHistoryModel" "parent" "[I") (List.mem_of_getElem? (i := 9) rfl)
  have k13 := hts (.fieldLink RX5 13 "WovenHistoryModel" "includes" "[I") (List.mem_of_getElem? (i := 10) rfl)
  have k16 := hts (.fieldLink RX5 16 "WovenHistoryModel" "excludes" "[I") (List.mem_of_getElem? (i := 11) rfl)
  have k19 := hts (.fieldLink RX5 19 "WovenHistoryModel" "letter" "[I") (List.mem_of_getElem? (i := 12) rfl)
  have k22 := hts (.fieldLink RX5 22 "WovenHistoryModel" "brought" "[I") (List.mem_of_getElem? (i := 13) rfl)
  have k25 := hts (.fieldLink RX5 25 "WovenHistoryModel" "took" "[I") (List.mem_of_getElem? (i := 14) rfl)
  have hl := lv_entry ([.ref (h 0), .int i]) (n := 4) (Nat.le_of_ble_eq_true rfl)
  rw [lg_entry_eq]
  generalize (lg_sl ([.ref (h 0), .int i]) ++ List.replicate (4 - (lg_sl ([.ref (h 0), .int i])).length) Slot.unset).toArray = ls at hl ⊢
  have hl : lv_has ls 4 [(0, .ref (h 0)), (1, .int i)] := hl
  have hI0 := hI
  obtain ⟨hnv, hnl, hnt, hnh, hnv24, hnl120, hnt240, hnh120, hop, hopn, hparV, hsz4, himg⟩ := hI
  refine lv_iload_n hx hb dX5_keep_0 rfl (lv_at hl 1 rfl) ?_
  refine lv_i2l (v := i.toInt64) hx hb dX5_keep_1 rfl ?_
  refine lv_lconst (v := 0) hx hb dX5_keep_2 (by decide) ?_
  refine lv_lconst (v := 1) hx hb dX5_keep_3 (by decide) ?_
  refine cSi (As := [.long i.toInt64, .long 0, .long 1]) (rest := []) ⟨hx, hb, hml, hown, hts⟩ (mt_X5_in l i.toInt64 0 1) (va_cwS 3 hts gX5_keep_X5_in rfl rfl rfl (by decide +kernel) ⟨Nat.le_of_ble_eq_true rfl, Nat.le_of_ble_eq_true rfl⟩) rfl hl.1 rfl (Nat.le_of_ble_eq_true rfl) ⟨Nat.zero_le _, Nat.zero_le _⟩ dX5_keep_4 (fun r4 hw4 => ?_)
  rcases hw4 with ⟨rfl, ha4, hb4⟩ | ⟨rfl, hn4⟩
  · skip
    obtain ⟨i1, hi0, hi1, rfl⟩ := rng_y (a := 0) (b := 1) (by decide) (by decide) (by omega) ha4 hb4
    refine lv_if_ne (tgt := 13) hx hb dX5_keep_7 (by decide) (fun _ => ?_) (fun c9 => absurd c9 (by decide))
    refine lv_aload_n hx hb dX5_keep_13 rfl (lv_at hl 0 rfl) ?_
    refine va_get (D := gD G) (ci := 5) (v := .int (u.1 8)) (C := RX5) (T := TX5) (N := 38) hx hb hts hiX5 hown hK hP 0 rfl rfl 8 (by decide) k178 (fun _ h9 => h9) rfl dX5_keep_14 ?_
    refine lv_if_eq (tgt := 23) hx hb dX5_keep_17 (by decide) (fun c17 => ?_) (fun c17 => ?_)
    · skip
      refine lv_sipush (v := nI 432) hx hb dX5_keep_23 (by decide) ?_
      refine lv_iload_n hx hb dX5_keep_26 rfl (lv_at hl 1 rfl) ?_
      refine lv_imul hx hb dX5_keep_27 ?_
      refine topE (y := nI (432 * i1)) (pk_mul 432 i1) ?_
      refine lv_istore_n (lv' := [(2, .int (nI (432 * i1))), (0, .ref (h 0)), (1, .int (nI i1))]) hx hb dX5_keep_28 rfl hl (by decide) rfl (fun ls hl => ?_)
      refine lv_aload_n hx hb dX5_keep_29 rfl (lv_at hl 1 rfl) ?_
      refine va_get (D := gD G) (ci := 5) (v := .ref (h 35)) (C := RX5) (T := TX5) (N := 38) hx hb hts hiX5 hown hK hP 0 rfl rfl 35 (by decide) k82 (fun _ h9 => h9) rfl dX5_keep_30 ?_
      refine lv_iload_n hx hb dX5_keep_33 rfl (lv_at hl 2 rfl) ?_
      refine lv_aload_n hx hb dX5_keep_34 rfl (lv_at hl 1 rfl) ?_
      refine va_get (D := gD G) (ci := 5) (v := .int (u.1 0)) (C := RX5) (T := TX5) (N := 38) hx hb hts hiX5 hown hK hP 0 rfl rfl 0 (by decide) k91 (fun _ h9 => h9) rfl dX5_keep_35 ?_
      refine topE hnv ?_
      refine iastN (f := u.2 35) (n := 2) (k := i1) hx hb hK hP hD hS 23 rfl rfl (by omega) dX5_keep_38 (fun H locs hP hD hS => ?_)
      have hP : PP G (mw G h (oA u 35 (upd (u.2 35) i1 (nI nv))) lt sj) H := hP
      have hD : va_D A (mw G h (oA u 35 (upd (u.2 35) i1 (nI nv))) lt sj) := hD
      refine lv_aload_n hx hb dX5_keep_39 rfl (lv_at hl 1 rfl) ?_
      refine va_get (D := gD G) (ci := 5) (v := .ref (h 36)) (C := RX5) (T := TX5) (N := 38) hx hb hts hiX5 hown hK hP 0 rfl rfl 36 (by decide) k85 (fun _ h9 => h9) rfl dX5_keep_40 ?_
      refine lv_iload_n hx hb dX5_keep_43 rfl (lv_at hl 2 rfl) ?_
      refine lv_aload_n hx hb dX5_keep_44 rfl (lv_at hl 1 rfl) ?_
      refine va_get (D := gD G) (ci := 5) (v := .int ((oA u 35 (upd (u.2 35) i1 (nI nv))).1 4)) (C := RX5) (T := TX5) (N := 38) hx hb hts hiX5 hown hK hP 0 rfl rfl 4 (by decide) k175 (fun _ h9 => h9) rfl dX5_keep_45 ?_
      refine topE hnl ?_
      refine iastN (f := (oA u 35 (upd (u.2 35) i1 (nI nv))).2 36) (n := 2) (k := i1) hx hb hK hP hD hS 24 rfl rfl (by omega) dX5_keep_48 (fun H locs hP hD hS => ?_)
      have hP : PP G (mw G h (oA (oA u 35 (upd (u.2 35) i1 (nI nv))) 36 (upd ((oA u 35 (upd (u.2 35) i1 (nI nv))).2 36) i1 (nI nl))) lt sj) H := hP
      have hD : va_D A (mw G h (oA (oA u 35 (upd (u.2 35) i1 (nI nv))) 36 (upd ((oA u 35 (upd (u.2 35) i1 (nI nv))).2 36) i1 (nI nl))) lt sj) := hD
      refine lv_iconst (v := nI 0) hx hb dX5_keep_49 (by decide) ?_
      refine lv_istore_n (lv' := [(3, .int (nI 0)), (2, .int (nI (432 * i1))), (0, .ref (h 0)), (1, .int (nI i1))]) hx hb dX5_keep_50 rfl hl (by decide) rfl (fun ls hl => ?_)
      have LP51 : ∀ (n51m : Nat), ∀ (k : Nat) (ff : Nat → Int32) (hk : k ≤ nv) (hf : imgI ff (u.2 1) (u.2 37) i1 k), (nv - k < n51m) → ∀ (H : Heap) (locs : List Loc) (ls : Array Slot), PP G (mw G h (oA (oA (oA u 35 (upd (u.2 35) i1 (nI nv))) 36 (upd (u.2 36) i1 (nI nl))) 37 ff) lt sj) H → va_D A (mw G h (oA (oA (oA u 35 (upd (u.2 35) i1 (nI nv))) 36 (upd (u.2 36) i1 (nI nl))) 37 ff) lt sj) → va_S A s.heap H locs → lv_has ls 4 [(0, .ref (h 0)), (1, .int (nI i1)), (2, .int (nI (432 * i1))), (3, .int (nI k))] → W p l e (headSpec wsX5_keep ({ frames := 1, cells := 0, slots := 0, locals := 25 })).room s m ([.ref (h 0), .int (nI i1)] : List Value).toArray below meth c H locs 0 0 (MQ below (va_Qi (fun (r : Int32) (v : oS × Int64 × (Nat → Int64)) => MIk u v.1) (fun v t => PP G (mw G h v.1 v.2.1 v.2.2) t.heap) A) ([.ref (h 0), .int (nI i1)] : List Value).toArray s 0 0 A) (F0 m 51 ls []) := by
        intro n51m
        induction n51m with
        | zero => intro k ff hk hf hmu H locs ls hP hD hS hl; exact absurd hmu (Nat.not_lt_zero _)
        | succ n51m ih51 =>
          intro k ff hk hf hmu H locs ls hP hD hS hl
          refine lv_iload_n hx hb dX5_keep_51 rfl (lv_at hl 3 rfl) ?_
          refine lv_aload_n hx hb dX5_keep_52 rfl (lv_at hl 0 rfl) ?_
          refine va_get (D := gD G) (ci := 5) (v := .int ((oA (oA (oA u 35 (upd (u.2 35) i1 (nI nv))) 36 (upd (u.2 36) i1 (nI nl))) 37 ff).1 0)) (C := RX5) (T := TX5) (N := 38) hx hb hts hiX5 hown hK hP 0 rfl rfl 0 (by decide) k91 (fun _ h9 => h9) rfl dX5_keep_53 ?_
          refine topE hnv ?_
          refine lv_icmp_ge (tgt := 113) hx hb dX5_keep_56 (by decide) (fun c56 => ?_) (fun c56 => ?_)
          · skip
            have n56 : nv ≤ k := (nI_leI (a := nv) (b := k) (by omega) (by omega)).mp c56
            refine lv_iconst (v := nI 0) hx hb dX5_keep_113 (by decide) ?_
            refine lv_istore_n (lv' := [(3, .int (nI 0)), (0, .ref (h 0)), (1, .int (nI i1)), (2, .int (nI (432 * i1)))]) hx hb dX5_keep_114 rfl hl (by decide) rfl (fun ls hl => ?_)
            have LP115 : ∀ (n115m : Nat), ∀ (k : Nat) (ff : Nat → Int32) (hk : k ≤ nl) (hf : imgI ff (u.2 1) (u.2 37) i1 nv), (nl - k < n115m) → ∀ (H : Heap) (locs : List Loc) (ls : Array Slot), PP G (mw G h (oA (oA (oA u 35 (upd (u.2 35) i1 (nI nv))) 36 (upd (u.2 36) i1 (nI nl))) 37 ff) lt sj) H → va_D A (mw G h (oA (oA (oA u 35 (upd (u.2 35) i1 (nI nv))) 36 (upd (u.2 36) i1 (nI nl))) 37 ff) lt sj) → va_S A s.heap H locs → lv_has ls 4 [(0, .ref (h 0)), (1, .int (nI i1)), (2, .int (nI (432 * i1))), (3, .int (nI k))] → W p l e (headSpec wsX5_keep ({ frames := 1, cells := 0, slots := 0, locals := 25 })).room s m ([.ref (h 0), .int (nI i1)] : List Value).toArray below meth c H locs 0 0 (MQ below (va_Qi (fun (r : Int32) (v : oS × Int64 × (Nat → Int64)) => MIk u v.1) (fun v t => PP G (mw G h v.1 v.2.1 v.2.2) t.heap) A) ([.ref (h 0), .int (nI i1)] : List Value).toArray s 0 0 A) (F0 m 115 ls []) := by
              intro n115m
              induction n115m with
              | zero => intro k ff hk hf hmu H locs ls hP hD hS hl; exact absurd hmu (Nat.not_lt_zero _)
              | succ n115m ih115 =>
                intro k ff hk hf hmu H locs ls hP hD hS hl
                refine lv_iload_n hx hb dX5_keep_115 rfl (lv_at hl 3 rfl) ?_
                refine lv_aload_n hx hb dX5_keep_116 rfl (lv_at hl 0 rfl) ?_
                refine va_get (D := gD G) (ci := 5) (v := .int ((oA (oA (oA u 35 (upd (u.2 35) i1 (nI nv))) 36 (upd (u.2 36) i1 (nI nl))) 37 ff).1 4)) (C := RX5) (T := TX5) (N := 38) hx hb hts hiX5 hown hK hP 0 rfl rfl 4 (by decide) k175 (fun _ h9 => h9) rfl dX5_keep_117 ?_
                refine topE hnl ?_
                refine lv_icmp_ge (tgt := 182) hx hb dX5_keep_120 (by decide) (fun c120 => ?_) (fun c120 => ?_)
                · skip
                  have n120 : nl ≤ k := (nI_leI (a := nl) (b := k) (by omega) (by omega)).mp c120
                  refine lv_aload_n hx hb dX5_keep_182 rfl (lv_at hl 0 rfl) ?_
                  refine va_get (D := gD G) (ci := 5) (v := .int ((oA (oA (oA u 35 (upd (u.2 35) i1 (nI nv))) 36 (upd (u.2 36) i1 (nI nl))) 37 ff).1 0)) (C := RX5) (T := TX5) (N := 38) hx hb hts hiX5 hown hK hP 0 rfl rfl 0 (by decide) k91 (fun _ h9 => h9) rfl dX5_keep_183 ?_
                  refine topE hnv ?_
                  exact W.iret (v := nI nv) hx hb hr (fun t ht hW => ⟨⟨nI nv, (oA (oA (oA u 35 (upd (u.2 35) i1 (nI nv))) 36 (upd (u.2 36) i1 (nI nl))) 37 ff, lt, sj), rfl, ⟨⟨nv, nl, nt, nh, hnv, hnl, hnt, hnh, hnv24, hnl120, hnt240, hnh120, hop, hopn, hparV, hsz4, imgI_end himg hf hparV hi1 hnv24 hnl120⟩, ⟨rfl, rfl, rfl⟩, rfl, rfl⟩, show PP G (mw G h (oA (oA (oA u 35 (upd (u.2 35) i1 (nI nv))) 36 (upd (u.2 36) i1 (nI nl))) 37 ff) lt sj) t.heap by rw [ht]; exact hP⟩, hS.F ht⟩) hS.2.2 dX5_keep_186
                · skip
                  have n120 : ¬ (nl ≤ k) := fun q9 => c120 ((nI_leI (a := nl) (b := k) (by omega) (by omega)).mpr q9)
                  refine lv_aload_n hx hb dX5_keep_123 rfl (lv_at hl 0 rfl) ?_
                  refine va_get (D := gD G) (ci := 5) (v := .ref (h 37)) (C := RX5) (T := TX5) (N := 38) hx hb hts hiX5 hown hK hP 0 rfl rfl 37 (by decide) k88 (fun _ h9 => h9) rfl dX5_keep_124 ?_
                  refine lv_iload_n hx hb dX5_keep_127 rfl (lv_at hl 2 rfl) ?_
                  refine lv_bipush (v := nI 72) hx hb dX5_keep_128 (by decide) ?_
                  refine lv_iadd hx hb dX5_keep_130 ?_
                  refine topE (y := nI ((432 * i1) + 72)) (nI_add (432 * i1) 72) ?_
                  refine lv_iload_n hx hb dX5_keep_131 rfl (lv_at hl 3 rfl) ?_
                  refine lv_iadd hx hb dX5_keep_132 ?_
                  refine topE (y := nI (((432 * i1) + 72) + k)) (nI_add ((432 * i1) + 72) k) ?_
                  refine lv_aload_n hx hb dX5_keep_133 rfl (lv_at hl 0 rfl) ?_
                  refine va_get (D := gD G) (ci := 5) (v := .ref (h 5)) (C := RX5) (T := TX5) (N := 38) hx hb hts hiX5 hown hK hP 0 rfl rfl 5 (by decide) k19 (fun _ h9 => h9) rfl dX5_keep_134 ?_
                  refine lv_iload_n hx hb dX5_keep_137 rfl (lv_at hl 3 rfl) ?_
                  refine ialdN (f := u.2 5) (n := 120) (k := k) hx hb hK hP 4 rfl rfl (by omega) dX5_keep_138 ?_
                  refine iastN (f := ff) (n := 864) (k := ((432 * i1) + 72) + k) hx hb hK hP hD hS 25 rfl rfl (by omega) dX5_keep_139 (fun H locs hP hD hS => ?_)
                  have hP : PP G (mw G h (oA (oA (oA (oA u 35 (upd (u.2 35) i1 (nI nv))) 36 (upd (u.2 36) i1 (nI nl))) 37 ff) 37 (upd ff (((432 * i1) + 72) + k) ((u.2 5) k))) lt sj) H := hP
                  have hD : va_D A (mw G h (oA (oA (oA (oA u 35 (upd (u.2 35) i1 (nI nv))) 36 (upd (u.2 36) i1 (nI nl))) 37 ff) 37 (upd ff (((432 * i1) + 72) + k) ((u.2 5) k))) lt sj) := hD
                  refine lv_aload_n hx hb dX5_keep_140 rfl (lv_at hl 0 rfl) ?_
                  refine va_get (D := gD G) (ci := 5) (v := .ref (h 37)) (C := RX5) (T := TX5) (N := 38) hx hb hts hiX5 hown hK hP 0 rfl rfl 37 (by decide) k88 (fun _ h9 => h9) rfl dX5_keep_141 ?_
                  refine lv_iload_n hx hb dX5_keep_144 rfl (lv_at hl 2 rfl) ?_
                  refine lv_sipush (v := nI 192) hx hb dX5_keep_145 (by decide) ?_
                  refine lv_iadd hx hb dX5_keep_148 ?_
                  refine topE (y := nI ((432 * i1) + 192)) (nI_add (432 * i1) 192) ?_
                  refine lv_iload_n hx hb dX5_keep_149 rfl (lv_at hl 3 rfl) ?_
                  refine lv_iadd hx hb dX5_keep_150 ?_
                  refine topE (y := nI (((432 * i1) + 192) + k)) (nI_add ((432 * i1) + 192) k) ?_
                  refine lv_aload_n hx hb dX5_keep_151 rfl (lv_at hl 0 rfl) ?_
                  refine va_get (D := gD G) (ci := 5) (v := .ref (h 6)) (C := RX5) (T := TX5) (N := 38) hx hb hts hiX5 hown hK hP 0 rfl rfl 6 (by decide) k22 (fun _ h9 => h9) rfl dX5_keep_152 ?_
                  refine lv_iload_n hx hb dX5_keep_155 rfl (lv_at hl 3 rfl) ?_
                  refine ialdN (f := u.2 6) (n := 120) (k := k) hx hb hK hP 5 rfl rfl (by omega) dX5_keep_156 ?_
                  refine iastN (f := upd ff (((432 * i1) + 72) + k) ((u.2 5) k)) (n := 864) (k := ((432 * i1) + 192) + k) hx hb hK hP hD hS 25 rfl rfl (by omega) dX5_keep_157 (fun H locs hP hD hS => ?_)
                  have hP : PP G (mw G h (oA (oA (oA (oA (oA u 35 (upd (u.2 35) i1 (nI nv))) 36 (upd (u.2 36) i1 (nI nl))) 37 ff) 37 (upd ff (((432 * i1) + 72) + k) ((u.2 5) k))) 37 (upd (upd ff (((432 * i1) + 72) + k) ((u.2 5) k)) (((432 * i1) + 192) + k) ((u.2 6) k))) lt sj) H := hP
                  have hD : va_D A (mw G h (oA (oA (oA (oA (oA u 35 (upd (u.2 35) i1 (nI nv))) 36 (upd (u.2 36) i1 (nI nl))) 37 ff) 37 (upd ff (((432 * i1) + 72) + k) ((u.2 5) k))) 37 (upd (upd ff (((432 * i1) + 72) + k) ((u.2 5) k)) (((432 * i1) + 192) + k) ((u.2 6) k))) lt sj) := hD
                  refine lv_aload_n hx hb dX5_keep_158 rfl (lv_at hl 0 rfl) ?_
                  refine va_get (D := gD G) (ci := 5) (v := .ref (h 37)) (C := RX5) (T := TX5) (N := 38) hx hb hts hiX5 hown hK hP 0 rfl rfl 37 (by decide) k88 (fun _ h9 => h9) rfl dX5_keep_159 ?_
                  refine lv_iload_n hx hb dX5_keep_162 rfl (lv_at hl 2 rfl) ?_
                  refine lv_sipush (v := nI 312) hx hb dX5_keep_163 (by decide) ?_
                  refine lv_iadd hx hb dX5_keep_166 ?_
                  refine topE (y := nI ((432 * i1) + 312)) (nI_add (432 * i1) 312) ?_
                  refine lv_iload_n hx hb dX5_keep_167 rfl (lv_at hl 3 rfl) ?_
                  refine lv_iadd hx hb dX5_keep_168 ?_
                  refine topE (y := nI (((432 * i1) + 312) + k)) (nI_add ((432 * i1) + 312) k) ?_
                  refine lv_aload_n hx hb dX5_keep_169 rfl (lv_at hl 0 rfl) ?_
                  refine va_get (D := gD G) (ci := 5) (v := .ref (h 7)) (C := RX5) (T := TX5) (N := 38) hx hb hts hiX5 hown hK hP 0 rfl rfl 7 (by decide) k25 (fun _ h9 => h9) rfl dX5_keep_170 ?_
                  refine lv_iload_n hx hb dX5_keep_173 rfl (lv_at hl 3 rfl) ?_
                  refine ialdN (f := u.2 7) (n := 120) (k := k) hx hb hK hP 6 rfl rfl (by omega) dX5_keep_174 ?_
                  refine iastN (f := upd (upd ff (((432 * i1) + 72) + k) ((u.2 5) k)) (((432 * i1) + 192) + k) ((u.2 6) k)) (n := 864) (k := ((432 * i1) + 312) + k) hx hb hK hP hD hS 25 rfl rfl (by omega) dX5_keep_175 (fun H locs hP hD hS => ?_)
                  have hP : PP G (mw G h (oA (oA (oA (oA (oA (oA u 35 (upd (u.2 35) i1 (nI nv))) 36 (upd (u.2 36) i1 (nI nl))) 37 ff) 37 (upd ff (((432 * i1) + 72) + k) ((u.2 5) k))) 37 (upd (upd ff (((432 * i1) + 72) + k) ((u.2 5) k)) (((432 * i1) + 192) + k) ((u.2 6) k))) 37 (upd (upd (upd ff (((432 * i1) + 72) + k) ((u.2 5) k)) (((432 * i1) + 192) + k) ((u.2 6) k)) (((432 * i1) + 312) + k) ((u.2 7) k))) lt sj) H := hP
                  have hD : va_D A (mw G h (oA (oA (oA (oA (oA (oA u 35 (upd (u.2 35) i1 (nI nv))) 36 (upd (u.2 36) i1 (nI nl))) 37 ff) 37 (upd ff (((432 * i1) + 72) + k) ((u.2 5) k))) 37 (upd (upd ff (((432 * i1) + 72) + k) ((u.2 5) k)) (((432 * i1) + 192) + k) ((u.2 6) k))) 37 (upd (upd (upd ff (((432 * i1) + 72) + k) ((u.2 5) k)) (((432 * i1) + 192) + k) ((u.2 6) k)) (((432 * i1) + 312) + k) ((u.2 7) k))) lt sj) := hD
                  refine lv_iinc (v := nI (k + 1)) (lv' := [(3, .int (nI (k + 1))), (0, .ref (h 0)), (1, .int (nI i1)), (2, .int (nI (432 * i1)))]) hx hb dX5_keep_176 hl (k := 3) rfl (nI_1 k) (by decide) rfl (fun ls hl => ?_)
                  refine lv_goto (tgt := 115) hx hb dX5_keep_179 (by decide) ?_
                  exact ih115 (k + 1) (upd (upd (upd ff (((432 * i1) + 72) + k) ((u.2 5) k)) (((432 * i1) + 192) + k) ((u.2 6) k)) (((432 * i1) + 312) + k) ((u.2 7) k)) (by first | assumption | omega) (imgI_b hf (by omega) (by omega) (by omega)) (by omega) _ _ ls hP hD hS (lv_sub hl [1, 2, 3, 0] rfl)
            exact LP115 (nl - 0 + 1) 0 ff (by first | assumption | omega) ((show k = nv by omega) ▸ hf) (Nat.lt_succ_self _) _ _ ls hP hD hS (lv_sub hl [1, 2, 3, 0] rfl)
          · skip
            have n56 : ¬ (nv ≤ k) := fun q9 => c56 ((nI_leI (a := nv) (b := k) (by omega) (by omega)).mpr q9)
            refine lv_aload_n hx hb dX5_keep_59 rfl (lv_at hl 0 rfl) ?_
            refine va_get (D := gD G) (ci := 5) (v := .ref (h 37)) (C := RX5) (T := TX5) (N := 38) hx hb hts hiX5 hown hK hP 0 rfl rfl 37 (by decide) k88 (fun _ h9 => h9) rfl dX5_keep_60 ?_
            refine lv_iload_n hx hb dX5_keep_63 rfl (lv_at hl 2 rfl) ?_
            refine lv_iload_n hx hb dX5_keep_64 rfl (lv_at hl 3 rfl) ?_
            refine lv_iadd hx hb dX5_keep_65 ?_
            refine topE (y := nI ((432 * i1) + k)) (nI_add (432 * i1) k) ?_
            refine lv_aload_n hx hb dX5_keep_66 rfl (lv_at hl 0 rfl) ?_
            refine va_get (D := gD G) (ci := 5) (v := .ref (h 1)) (C := RX5) (T := TX5) (N := 38) hx hb hts hiX5 hown hK hP 0 rfl rfl 1 (by decide) k7 (fun _ h9 => h9) rfl dX5_keep_67 ?_
            refine lv_iload_n hx hb dX5_keep_70 rfl (lv_at hl 3 rfl) ?_
            refine ialdN (f := u.2 1) (n := 25) (k := k) hx hb hK hP 1 rfl rfl (by omega) dX5_keep_71 ?_
            refine iastN (f := ff) (n := 864) (k := (432 * i1) + k) hx hb hK hP hD hS 25 rfl rfl (by omega) dX5_keep_72 (fun H locs hP hD hS => ?_)
            have hP : PP G (mw G h (oA (oA (oA (oA u 35 (upd (u.2 35) i1 (nI nv))) 36 (upd (u.2 36) i1 (nI nl))) 37 ff) 37 (upd ff ((432 * i1) + k) ((u.2 1) k))) lt sj) H := hP
            have hD : va_D A (mw G h (oA (oA (oA (oA u 35 (upd (u.2 35) i1 (nI nv))) 36 (upd (u.2 36) i1 (nI nl))) 37 ff) 37 (upd ff ((432 * i1) + k) ((u.2 1) k))) lt sj) := hD
            refine lv_aload_n hx hb dX5_keep_73 rfl (lv_at hl 0 rfl) ?_
            refine va_get (D := gD G) (ci := 5) (v := .ref (h 37)) (C := RX5) (T := TX5) (N := 38) hx hb hts hiX5 hown hK hP 0 rfl rfl 37 (by decide) k88 (fun _ h9 => h9) rfl dX5_keep_74 ?_
            refine lv_iload_n hx hb dX5_keep_77 rfl (lv_at hl 2 rfl) ?_
            refine lv_bipush (v := nI 24) hx hb dX5_keep_78 (by decide) ?_
            refine lv_iadd hx hb dX5_keep_80 ?_
            refine topE (y := nI ((432 * i1) + 24)) (nI_add (432 * i1) 24) ?_
            refine lv_iload_n hx hb dX5_keep_81 rfl (lv_at hl 3 rfl) ?_
            refine lv_iadd hx hb dX5_keep_82 ?_
            refine topE (y := nI (((432 * i1) + 24) + k)) (nI_add ((432 * i1) + 24) k) ?_
            refine lv_aload_n hx hb dX5_keep_83 rfl (lv_at hl 0 rfl) ?_
            refine va_get (D := gD G) (ci := 5) (v := .ref (h 2)) (C := RX5) (T := TX5) (N := 38) hx hb hts hiX5 hown hK hP 0 rfl rfl 2 (by decide) k13 (fun _ h9 => h9) rfl dX5_keep_84 ?_
            refine lv_iload_n hx hb dX5_keep_87 rfl (lv_at hl 3 rfl) ?_
            refine ialdN (f := u.2 2) (n := 25) (k := k) hx hb hK hP 2 rfl rfl (by omega) dX5_keep_88 ?_
            refine iastN (f := upd ff ((432 * i1) + k) ((u.2 1) k)) (n := 864) (k := ((432 * i1) + 24) + k) hx hb hK hP hD hS 25 rfl rfl (by omega) dX5_keep_89 (fun H locs hP hD hS => ?_)
            have hP : PP G (mw G h (oA (oA (oA (oA (oA u 35 (upd (u.2 35) i1 (nI nv))) 36 (upd (u.2 36) i1 (nI nl))) 37 ff) 37 (upd ff ((432 * i1) + k) ((u.2 1) k))) 37 (upd (upd ff ((432 * i1) + k) ((u.2 1) k)) (((432 * i1) + 24) + k) ((u.2 2) k))) lt sj) H := hP
            have hD : va_D A (mw G h (oA (oA (oA (oA (oA u 35 (upd (u.2 35) i1 (nI nv))) 36 (upd (u.2 36) i1 (nI nl))) 37 ff) 37 (upd ff ((432 * i1) + k) ((u.2 1) k))) 37 (upd (upd ff ((432 * i1) + k) ((u.2 1) k)) (((432 * i1) + 24) + k) ((u.2 2) k))) lt sj) := hD
            refine lv_aload_n hx hb dX5_keep_90 rfl (lv_at hl 0 rfl) ?_
            refine va_get (D := gD G) (ci := 5) (v := .ref (h 37)) (C := RX5) (T := TX5) (N := 38) hx hb hts hiX5 hown hK hP 0 rfl rfl 37 (by decide) k88 (fun _ h9 => h9) rfl dX5_keep_91 ?_
            refine lv_iload_n hx hb dX5_keep_94 rfl (lv_at hl 2 rfl) ?_
            refine lv_bipush (v := nI 48) hx hb dX5_keep_95 (by decide) ?_
            refine lv_iadd hx hb dX5_keep_97 ?_
            refine topE (y := nI ((432 * i1) + 48)) (nI_add (432 * i1) 48) ?_
            refine lv_iload_n hx hb dX5_keep_98 rfl (lv_at hl 3 rfl) ?_
            refine lv_iadd hx hb dX5_keep_99 ?_
            refine topE (y := nI (((432 * i1) + 48) + k)) (nI_add ((432 * i1) + 48) k) ?_
            refine lv_aload_n hx hb dX5_keep_100 rfl (lv_at hl 0 rfl) ?_
            refine va_get (D := gD G) (ci := 5) (v := .ref (h 3)) (C := RX5) (T := TX5) (N := 38) hx hb hts hiX5 hown hK hP 0 rfl rfl 3 (by decide) k16 (fun _ h9 => h9) rfl dX5_keep_101 ?_
            refine lv_iload_n hx hb dX5_keep_104 rfl (lv_at hl 3 rfl) ?_
            refine ialdN (f := u.2 3) (n := 25) (k := k) hx hb hK hP 3 rfl rfl (by omega) dX5_keep_105 ?_
            refine iastN (f := upd (upd ff ((432 * i1) + k) ((u.2 1) k)) (((432 * i1) + 24) + k) ((u.2 2) k)) (n := 864) (k := ((432 * i1) + 48) + k) hx hb hK hP hD hS 25 rfl rfl (by omega) dX5_keep_106 (fun H locs hP hD hS => ?_)
            have hP : PP G (mw G h (oA (oA (oA (oA (oA (oA u 35 (upd (u.2 35) i1 (nI nv))) 36 (upd (u.2 36) i1 (nI nl))) 37 ff) 37 (upd ff ((432 * i1) + k) ((u.2 1) k))) 37 (upd (upd ff ((432 * i1) + k) ((u.2 1) k)) (((432 * i1) + 24) + k) ((u.2 2) k))) 37 (upd (upd (upd ff ((432 * i1) + k) ((u.2 1) k)) (((432 * i1) + 24) + k) ((u.2 2) k)) (((432 * i1) + 48) + k) ((u.2 3) k))) lt sj) H := hP
            have hD : va_D A (mw G h (oA (oA (oA (oA (oA (oA u 35 (upd (u.2 35) i1 (nI nv))) 36 (upd (u.2 36) i1 (nI nl))) 37 ff) 37 (upd ff ((432 * i1) + k) ((u.2 1) k))) 37 (upd (upd ff ((432 * i1) + k) ((u.2 1) k)) (((432 * i1) + 24) + k) ((u.2 2) k))) 37 (upd (upd (upd ff ((432 * i1) + k) ((u.2 1) k)) (((432 * i1) + 24) + k) ((u.2 2) k)) (((432 * i1) + 48) + k) ((u.2 3) k))) lt sj) := hD
            refine lv_iinc (v := nI (k + 1)) (lv' := [(3, .int (nI (k + 1))), (0, .ref (h 0)), (1, .int (nI i1)), (2, .int (nI (432 * i1)))]) hx hb dX5_keep_107 hl (k := 3) rfl (nI_1 k) (by decide) rfl (fun ls hl => ?_)
            refine lv_goto (tgt := 51) hx hb dX5_keep_110 (by decide) ?_
            exact ih51 (k + 1) (upd (upd (upd ff ((432 * i1) + k) ((u.2 1) k)) (((432 * i1) + 24) + k) ((u.2 2) k)) (((432 * i1) + 48) + k) ((u.2 3) k)) (by first | assumption | omega) (imgI_a hf (by omega) (by omega)) (by omega) _ _ ls hP hD hS (lv_sub hl [1, 2, 3, 0] rfl)
      exact LP51 (nv - 0 + 1) 0 ((oA (oA u 35 (upd (u.2 35) i1 (nI nv))) 36 (upd ((oA u 35 (upd (u.2 35) i1 (nI nv))).2 36) i1 (nI nl))).2 37) (by first | assumption | omega) (imgI_0 _ _ _) (Nat.lt_succ_self _) _ _ ls hP hD hS (lv_sub hl [2, 3, 1, 0] rfl)
    · skip
      refine lv_ldc (v := (-1000000003 : Int32)) hx hb hown (hts (.constant RX5 225 (-1000000003)) (List.mem_of_getElem? (i := 3) rfl)) dX5_keep_20 ?_
      exact W.iret (v := (-1000000003 : Int32)) hx hb hr (fun t ht hW => ⟨⟨(-1000000003 : Int32), (u, lt, sj), rfl, ⟨⟨nv, nl, nt, nh, hI0⟩, ⟨rfl, rfl, rfl⟩, rfl, rfl⟩, show PP G (mw G h u lt sj) t.heap by rw [ht]; exact hP⟩, hS.F ht⟩) hS.2.2 dX5_keep_22
  · skip
    refine lv_if_ne (tgt := 13) hx hb dX5_keep_7 (by decide) (fun c9 => absurd (by decide) c9) (fun _ => ?_)
    refine lv_ldc (v := (-1000000001 : Int32)) hx hb hown (hts (.constant RX5 216 (-1000000001)) (List.mem_of_getElem? (i := 1) rfl)) dX5_keep_10 ?_
    exact W.iret (v := (-1000000001 : Int32)) hx hb hr (fun t ht hW => ⟨⟨(-1000000001 : Int32), (u, lt, sj), rfl, ⟨⟨nv, nl, nt, nh, hI0⟩, ⟨rfl, rfl, rfl⟩, rfl, rfl⟩, show PP G (mw G h u lt sj) t.heap by rw [ht]; exact hP⟩, hS.F ht⟩) hS.2.2 dX5_keep_12
set_option maxHeartbeats 1000000 in
set_option maxRecDepth 100000 in
theorem mt_X5_goBack (l : Launch) (G : gG) (h : Nat → Nat) (sz : Nat) (u : oS) (lt : Int64) (sj : Nat → Int64) (i : Int32) (nv nl nt nh : Nat) (hI : MIx u nv nl nt nh) : Met l yX5_goBack wsX5_goBack ({ frames := 1, cells := 0, slots := 0, locals := 25 }) (preW G (mw G h u lt sj) sz [.ref (h 0), .int i]) (va_Qi (fun (r : Int32) (v : oS × Int64 × (Nat → Int64)) => MIk u v.1) (fun v t => PP G (mw G h v.1 v.2.1 v.2.2) t.heap) (va_A (mw G h u lt sj) sz)) 0 0 (va_A (mw G h u lt sj) sz) := by
  refine Met.ofW (cc := cX5_goBack) (maxL := 4) (ret := (some .int)) (by decide) rfl ?_
  intro p e s m args below meth c s₁ B hml hv
  obtain ⟨ha, hsz, hP, hK, hN, hD0⟩ := hv
  subst ha
  have hx := B.exec
  have hb := B.bytes
  have hr := B.returns
  have hts := atoms_spec (ws := wsX5_goBack) B.pre
  have hown : s.vm.findClass RX5 = some m.cls := findClass_of_methodNamed B.named
  have hlocks := B.notSynchronized
  subst hsz
  have hD := hD0.self (sz := s.heap.size)
  generalize hAe : va_A (mw G h u lt sj) s.heap.size = A at hD ⊢
  have hA : ∀ q : Nat, s.heap.size ≤ q → A q := fun q h => by rw [← hAe]; exact Or.inr h
  clear hAe hD0
  have hS : va_S A s.heap s.heap [] := va_S.rf
  have hiX5 : ∀ w ∈ wsX50, w ∈ wsX5_goBack := by decide +kernel
  have k82 := hts (.fieldLink RX5 82 "WovenHistoryModel" "keptVersions" "[I") (List.mem_of_getElem? (i := 2) rfl)
  have k91 := hts (.fieldLink RX5 91 "WovenHistoryModel" "versions" "I") (List.mem_of_getElem? (i := 4) rfl)
  have k85 := hts (.fieldLink RX5 85 "WovenHistoryModel" "keptLines" "[I") (List.mem_of_getElem? (i := 5) rfl)
  have k175 := hts (.fieldLink RX5 175 "WovenHistoryModel" "lines" "I") (List.mem_of_getElem? (i := 6) rfl)
  have k178 := hts (.fieldLink RX5 178 "WovenHistoryModel" "isOpen" "Z") (List.mem_of_getElem? (i := 7) rfl)
  have k7 := hts (.fieldLink RX5 7 "WovenHistoryModel" "parent" "[I") (List.mem_of_getElem? (i := 8) rfl)
  have k88 := hts (.fieldLink RX5 88 "WovenHistoryModel" "images" "[I") (List.mem_of_getElem? (i := 9) rfl)
  have k13 := hts (.fieldLink RX5 13 "WovenHistoryModel" "includes" "[I") (List.mem_of_getElem? (i := 10) rfl)
  have k16 := hts (.fieldLink RX5 16 "WovenHistoryModel" "excludes" "[I") (List.mem_of_getElem? (i := 11) rfl)
  have k19 := hts (.fieldLink RX5 19 "WovenHistoryModel" "letter" "[I") (List.mem_of_getElem? (i := 12) rfl)
  have k22 := hts (.fieldLink RX5 22 "WovenHistoryModel" "brought" "[I") (List.mem_of_getElem? (i := 13) rfl)
  have k25 := hts (.fieldLink RX5 25 "WovenHistoryModel" "took" "[I") (List.mem_of_getElem? (i := 14) rfl)
  have hl := lv_entry ([.ref (h 0), .int i]) (n := 4) (Nat.le_of_ble_eq_true rfl)
  rw [lg_entry_eq]
  generalize (lg_sl ([.ref (h 0), .int i]) ++ List.replicate (4 - (lg_sl ([.ref (h 0), .int i])).length) Slot.unset).toArray = ls at hl ⊢
  have hl : lv_has ls 4 [(0, .ref (h 0)), (1, .int i)] := hl
  have hI0 := hI
  obtain ⟨hnv, hnl, hnt, hnh, hnv24, hnl120, hnt240, hnh120, hop, hopn, hparV, hsz4, himg⟩ := hI
  refine lv_iload_n hx hb dX5_goBack_0 rfl (lv_at hl 1 rfl) ?_
  refine lv_i2l (v := i.toInt64) hx hb dX5_goBack_1 rfl ?_
  refine lv_lconst (v := 0) hx hb dX5_goBack_2 (by decide) ?_
  refine lv_lconst (v := 1) hx hb dX5_goBack_3 (by decide) ?_
  refine cSi (As := [.long i.toInt64, .long 0, .long 1]) (rest := []) ⟨hx, hb, hml, hown, hts⟩ (mt_X5_in l i.toInt64 0 1) (va_cwS 3 hts gX5_goBack_X5_in rfl rfl rfl (by decide +kernel) ⟨Nat.le_of_ble_eq_true rfl, Nat.le_of_ble_eq_true rfl⟩) rfl hl.1 rfl (Nat.le_of_ble_eq_true rfl) ⟨Nat.zero_le _, Nat.zero_le _⟩ dX5_goBack_4 (fun r4 hw4 => ?_)
  rcases hw4 with ⟨rfl, ha4, hb4⟩ | ⟨rfl, hn4⟩
  · skip
    obtain ⟨i1, hi0, hi1, rfl⟩ := rng_y (a := 0) (b := 1) (by decide) (by decide) (by omega) ha4 hb4
    refine lv_if_ne (tgt := 13) hx hb dX5_goBack_7 (by decide) (fun _ => ?_) (fun c9 => absurd c9 (by decide))
    refine lv_aload_n hx hb dX5_goBack_13 rfl (lv_at hl 0 rfl) ?_
    refine va_get (D := gD G) (ci := 5) (v := .ref (h 35)) (C := RX5) (T := TX5) (N := 38) hx hb hts hiX5 hown hK hP 0 rfl rfl 35 (by decide) k82 (fun _ h9 => h9) rfl dX5_goBack_14 ?_
    refine lv_iload_n hx hb dX5_goBack_17 rfl (lv_at hl 1 rfl) ?_
    refine ialdN (f := u.2 35) (n := 2) (k := i1) hx hb hK hP 23 rfl rfl (by omega) dX5_goBack_18 ?_
    refine lv_if_ge (tgt := 25) hx hb dX5_goBack_19 (by decide) (fun c19 => ?_) (fun c19 => ?_)
    · skip
      obtain ⟨n1, q1, hn1, hq1, e35, e36, hpo⟩ := (himg i1 (by omega)).resolve_left (fun e => absurd c19 (by rw [e]; decide))
      refine lv_sipush (v := nI 432) hx hb dX5_goBack_25 (by decide) ?_
      refine lv_iload_n hx hb dX5_goBack_28 rfl (lv_at hl 1 rfl) ?_
      refine lv_imul hx hb dX5_goBack_29 ?_
      refine topE (y := nI (432 * i1)) (pk_mul 432 i1) ?_
      refine lv_istore_n (lv' := [(2, .int (nI (432 * i1))), (0, .ref (h 0)), (1, .int (nI i1))]) hx hb dX5_goBack_30 rfl hl (by decide) rfl (fun ls hl => ?_)
      refine lv_aload_n hx hb dX5_goBack_31 rfl (lv_at hl 1 rfl) ?_
      refine lv_aload_n hx hb dX5_goBack_32 rfl (lv_at hl 1 rfl) ?_
      refine va_get (D := gD G) (ci := 5) (v := .ref (h 35)) (C := RX5) (T := TX5) (N := 38) hx hb hts hiX5 hown hK hP 0 rfl rfl 35 (by decide) k82 (fun _ h9 => h9) rfl dX5_goBack_33 ?_
      refine lv_iload_n hx hb dX5_goBack_36 rfl (lv_at hl 2 rfl) ?_
      refine ialdN (f := u.2 35) (n := 2) (k := i1) hx hb hK hP 23 rfl rfl (by omega) dX5_goBack_37 ?_
      refine topE e35 ?_
      refine va_put (D := gD G) (ci := 5) (v := .int (nI n1)) (ty := .int) (C := RX5) (T := TX5) (N := 38) hx hb hts hiX5 tyX5 tyX5_ok nmX5 hown hK hP hD hS 0 rfl rfl 0 (by decide) k91 (fun _ h9 => h9) rfl (by decide +kernel) (rfl) (rfl) (Nat.le_of_ble_eq_true rfl) dX5_goBack_38 (fun H locs hP hD hS => ?_)
      have hP : PP G (mw G h (oI u 0 (nI n1)) lt sj) H := hP
      have hD : va_D A (mw G h (oI u 0 (nI n1)) lt sj) := hD
      refine lv_aload_n hx hb dX5_goBack_41 rfl (lv_at hl 1 rfl) ?_
      refine lv_aload_n hx hb dX5_goBack_42 rfl (lv_at hl 1 rfl) ?_
      refine va_get (D := gD G) (ci := 5) (v := .ref (h 36)) (C := RX5) (T := TX5) (N := 38) hx hb hts hiX5 hown hK hP 0 rfl rfl 36 (by decide) k85 (fun _ h9 => h9) rfl dX5_goBack_43 ?_
      refine lv_iload_n hx hb dX5_goBack_46 rfl (lv_at hl 2 rfl) ?_
      refine ialdN (f := (oI u 0 (nI n1)).2 36) (n := 2) (k := i1) hx hb hK hP 24 rfl rfl (by omega) dX5_goBack_47 ?_
      refine topE e36 ?_
      refine va_put (D := gD G) (ci := 5) (v := .int (nI q1)) (ty := .int) (C := RX5) (T := TX5) (N := 38) hx hb hts hiX5 tyX5 tyX5_ok nmX5 hown hK hP hD hS 0 rfl rfl 4 (by decide) k175 (fun _ h9 => h9) rfl (by decide +kernel) (rfl) (rfl) (Nat.le_of_ble_eq_true rfl) dX5_goBack_48 (fun H locs hP hD hS => ?_)
      have hP : PP G (mw G h (oI (oI u 0 (nI n1)) 4 (nI q1)) lt sj) H := hP
      have hD : va_D A (mw G h (oI (oI u 0 (nI n1)) 4 (nI q1)) lt sj) := hD
      refine lv_aload_n hx hb dX5_goBack_51 rfl (lv_at hl 1 rfl) ?_
      refine lv_iconst (v := nI 0) hx hb dX5_goBack_52 (by decide) ?_
      refine va_put (D := gD G) (ci := 5) (v := .int (nI 0)) (ty := .boolean) (C := RX5) (T := TX5) (N := 38) hx hb hts hiX5 tyX5 tyX5_ok nmX5 hown hK hP hD hS 0 rfl rfl 8 (by decide) k178 (fun _ h9 => h9) rfl (by decide +kernel) (rfl) (rfl) (Nat.le_of_ble_eq_true rfl) dX5_goBack_53 (fun H locs hP hD hS => ?_)
      have hP : PP G (mw G h (oI (oI (oI u 0 (nI n1)) 4 (nI q1)) 8 (nI 0)) lt sj) H := hP
      have hD : va_D A (mw G h (oI (oI (oI u 0 (nI n1)) 4 (nI q1)) 8 (nI 0)) lt sj) := hD
      refine lv_iconst (v := nI 0) hx hb dX5_goBack_56 (by decide) ?_
      refine lv_istore_n (lv' := [(3, .int (nI 0)), (2, .int (nI (432 * i1))), (0, .ref (h 0)), (1, .int (nI i1))]) hx hb dX5_goBack_57 rfl hl (by decide) rfl (fun ls hl => ?_)
      have LP58 : ∀ (n58m : Nat), ∀ (k : Nat) (f1 : Nat → Int32) (f2 : Nat → Int32) (f3 : Nat → Int32) (hk : k ≤ n1) (hf : ∀ j, j < k → f1 j = u.2 37 (432 * i1 + j)), (n1 - k < n58m) → ∀ (H : Heap) (locs : List Loc) (ls : Array Slot), PP G (mw G h (oA (oA (oA (oI (oI (oI u 0 (nI n1)) 4 (nI q1)) 8 (nI 0)) 1 f1) 2 f2) 3 f3) lt sj) H → va_D A (mw G h (oA (oA (oA (oI (oI (oI u 0 (nI n1)) 4 (nI q1)) 8 (nI 0)) 1 f1) 2 f2) 3 f3) lt sj) → va_S A s.heap H locs → lv_has ls 4 [(0, .ref (h 0)), (2, .int (nI (432 * i1))), (3, .int (nI k))] → W p l e (headSpec wsX5_goBack ({ frames := 1, cells := 0, slots := 0, locals := 25 })).room s m ([.ref (h 0), .int (nI i1)] : List Value).toArray below meth c H locs 0 0 (MQ below (va_Qi (fun (r : Int32) (v : oS × Int64 × (Nat → Int64)) => MIk u v.1) (fun v t => PP G (mw G h v.1 v.2.1 v.2.2) t.heap) A) ([.ref (h 0), .int (nI i1)] : List Value).toArray s 0 0 A) (F0 m 58 ls []) := by
        intro n58m
        induction n58m with
        | zero => intro k f1 f2 f3 hk hf hmu H locs ls hP hD hS hl; exact absurd hmu (Nat.not_lt_zero _)
        | succ n58m ih58 =>
          intro k f1 f2 f3 hk hf hmu H locs ls hP hD hS hl
          refine lv_iload_n hx hb dX5_goBack_58 rfl (lv_at hl 2 rfl) ?_
          refine lv_aload_n hx hb dX5_goBack_59 rfl (lv_at hl 0 rfl) ?_
          refine va_get (D := gD G) (ci := 5) (v := .int ((oA (oA (oA (oI (oI (oI u 0 (nI n1)) 4 (nI q1)) 8 (nI 0)) 1 f1) 2 f2) 3 f3).1 0)) (C := RX5) (T := TX5) (N := 38) hx hb hts hiX5 hown hK hP 0 rfl rfl 0 (by decide) k91 (fun _ h9 => h9) rfl dX5_goBack_60 ?_
          refine topE rfl ?_
          refine lv_icmp_ge (tgt := 120) hx hb dX5_goBack_63 (by decide) (fun c63 => ?_) (fun c63 => ?_)
          · skip
            have n63 : n1 ≤ k := (nI_leI (a := n1) (b := k) (by omega) (by omega)).mp c63
            refine lv_iconst (v := nI 0) hx hb dX5_goBack_120 (by decide) ?_
            refine lv_istore_n (lv' := [(3, .int (nI 0)), (0, .ref (h 0)), (2, .int (nI (432 * i1)))]) hx hb dX5_goBack_121 rfl hl (by decide) rfl (fun ls hl => ?_)
            have LP122 : ∀ (n122m : Nat), ∀ (k : Nat) (f5 : Nat → Int32) (f6 : Nat → Int32) (f7 : Nat → Int32) (hk : k ≤ q1) (hp1 : parOK f1 n1), (q1 - k < n122m) → ∀ (H : Heap) (locs : List Loc) (ls : Array Slot), PP G (mw G h (ln3 (oA (oA (oA (oI (oI (oI u 0 (nI n1)) 4 (nI q1)) 8 (nI 0)) 1 f1) 2 f2) 3 f3) f5 f6 f7) lt sj) H → va_D A (mw G h (ln3 (oA (oA (oA (oI (oI (oI u 0 (nI n1)) 4 (nI q1)) 8 (nI 0)) 1 f1) 2 f2) 3 f3) f5 f6 f7) lt sj) → va_S A s.heap H locs → lv_has ls 4 [(0, .ref (h 0)), (2, .int (nI (432 * i1))), (3, .int (nI k))] → W p l e (headSpec wsX5_goBack ({ frames := 1, cells := 0, slots := 0, locals := 25 })).room s m ([.ref (h 0), .int (nI i1)] : List Value).toArray below meth c H locs 0 0 (MQ below (va_Qi (fun (r : Int32) (v : oS × Int64 × (Nat → Int64)) => MIk u v.1) (fun v t => PP G (mw G h v.1 v.2.1 v.2.2) t.heap) A) ([.ref (h 0), .int (nI i1)] : List Value).toArray s 0 0 A) (F0 m 122 ls []) := by
              intro n122m
              induction n122m with
              | zero => intro k f5 f6 f7 hk hp1 hmu H locs ls hP hD hS hl; exact absurd hmu (Nat.not_lt_zero _)
              | succ n122m ih122 =>
                intro k f5 f6 f7 hk hp1 hmu H locs ls hP hD hS hl
                refine lv_iload_n hx hb dX5_goBack_122 rfl (lv_at hl 2 rfl) ?_
                refine lv_aload_n hx hb dX5_goBack_123 rfl (lv_at hl 0 rfl) ?_
                refine va_get (D := gD G) (ci := 5) (v := .int ((ln3 (oA (oA (oA (oI (oI (oI u 0 (nI n1)) 4 (nI q1)) 8 (nI 0)) 1 f1) 2 f2) 3 f3) f5 f6 f7).1 4)) (C := RX5) (T := TX5) (N := 38) hx hb hts hiX5 hown hK hP 0 rfl rfl 4 (by decide) k175 (fun _ h9 => h9) rfl dX5_goBack_124 ?_
                refine topE rfl ?_
                refine lv_icmp_ge (tgt := 189) hx hb dX5_goBack_127 (by decide) (fun c127 => ?_) (fun c127 => ?_)
                · skip
                  have n127 : q1 ≤ k := (nI_leI (a := q1) (b := k) (by omega) (by omega)).mp c127
                  refine lv_aload_n hx hb dX5_goBack_189 rfl (lv_at hl 0 rfl) ?_
                  refine va_get (D := gD G) (ci := 5) (v := .int ((ln3 (oA (oA (oA (oI (oI (oI u 0 (nI n1)) 4 (nI q1)) 8 (nI 0)) 1 f1) 2 f2) 3 f3) f5 f6 f7).1 0)) (C := RX5) (T := TX5) (N := 38) hx hb hts hiX5 hown hK hP 0 rfl rfl 0 (by decide) k91 (fun _ h9 => h9) rfl dX5_goBack_190 ?_
                  refine topE rfl ?_
                  exact W.iret (v := nI n1) hx hb hr (fun t ht hW => ⟨⟨nI n1, (ln3 (oA (oA (oA (oI (oI (oI u 0 (nI n1)) 4 (nI q1)) 8 (nI 0)) 1 f1) 2 f2) 3 f3) f5 f6 f7, lt, sj), rfl, ⟨⟨n1, q1, nt, nh, rfl, rfl, hnt, hnh, hn1, hq1, hnt240, hnh120, Or.inl rfl, fun e => absurd e (show ¬ nI 0 = 1 by decide), hp1, hsz4, himg⟩, ⟨rfl, rfl, rfl⟩, rfl, rfl⟩, show PP G (mw G h (ln3 (oA (oA (oA (oI (oI (oI u 0 (nI n1)) 4 (nI q1)) 8 (nI 0)) 1 f1) 2 f2) 3 f3) f5 f6 f7) lt sj) t.heap by rw [ht]; exact hP⟩, hS.F ht⟩) hS.2.2 dX5_goBack_193
                · skip
                  have n127 : ¬ (q1 ≤ k) := fun q9 => c127 ((nI_leI (a := q1) (b := k) (by omega) (by omega)).mpr q9)
                  refine lv_aload_n hx hb dX5_goBack_130 rfl (lv_at hl 0 rfl) ?_
                  refine va_get (D := gD G) (ci := 5) (v := .ref (h 5)) (C := RX5) (T := TX5) (N := 38) hx hb hts hiX5 hown hK hP 0 rfl rfl 5 (by decide) k19 (fun _ h9 => h9) rfl dX5_goBack_131 ?_
                  refine lv_iload_n hx hb dX5_goBack_134 rfl (lv_at hl 2 rfl) ?_
                  refine lv_aload_n hx hb dX5_goBack_135 rfl (lv_at hl 0 rfl) ?_
                  refine va_get (D := gD G) (ci := 5) (v := .ref (h 37)) (C := RX5) (T := TX5) (N := 38) hx hb hts hiX5 hown hK hP 0 rfl rfl 37 (by decide) k88 (fun _ h9 => h9) rfl dX5_goBack_136 ?_
                  refine lv_iload_n hx hb dX5_goBack_139 rfl (lv_at hl 1 rfl) ?_
                  refine lv_bipush (v := nI 72) hx hb dX5_goBack_140 (by decide) ?_
                  refine lv_iadd hx hb dX5_goBack_142 ?_
                  refine topE (y := nI ((432 * i1) + 72)) (nI_add (432 * i1) 72) ?_
                  refine lv_iload_n hx hb dX5_goBack_143 rfl (lv_at hl 2 rfl) ?_
                  refine lv_iadd hx hb dX5_goBack_144 ?_
                  refine topE (y := nI (((432 * i1) + 72) + k)) (nI_add ((432 * i1) + 72) k) ?_
                  refine ialdN (f := u.2 37) (n := 864) (k := ((432 * i1) + 72) + k) hx hb hK hP 25 rfl rfl (by omega) dX5_goBack_145 ?_
                  refine iastN (f := f5) (n := 120) (k := k) hx hb hK hP hD hS 4 rfl rfl (by omega) dX5_goBack_146 (fun H locs hP hD hS => ?_)
                  have hP : PP G (mw G h (oA (ln3 (oA (oA (oA (oI (oI (oI u 0 (nI n1)) 4 (nI q1)) 8 (nI 0)) 1 f1) 2 f2) 3 f3) f5 f6 f7) 5 (upd f5 k ((u.2 37) (((432 * i1) + 72) + k)))) lt sj) H := hP
                  have hD : va_D A (mw G h (oA (ln3 (oA (oA (oA (oI (oI (oI u 0 (nI n1)) 4 (nI q1)) 8 (nI 0)) 1 f1) 2 f2) 3 f3) f5 f6 f7) 5 (upd f5 k ((u.2 37) (((432 * i1) + 72) + k)))) lt sj) := hD
                  refine lv_aload_n hx hb dX5_goBack_147 rfl (lv_at hl 0 rfl) ?_
                  refine va_get (D := gD G) (ci := 5) (v := .ref (h 6)) (C := RX5) (T := TX5) (N := 38) hx hb hts hiX5 hown hK hP 0 rfl rfl 6 (by decide) k22 (fun _ h9 => h9) rfl dX5_goBack_148 ?_
                  refine lv_iload_n hx hb dX5_goBack_151 rfl (lv_at hl 2 rfl) ?_
                  refine lv_aload_n hx hb dX5_goBack_152 rfl (lv_at hl 0 rfl) ?_
                  refine va_get (D := gD G) (ci := 5) (v := .ref (h 37)) (C := RX5) (T := TX5) (N := 38) hx hb hts hiX5 hown hK hP 0 rfl rfl 37 (by decide) k88 (fun _ h9 => h9) rfl dX5_goBack_153 ?_
                  refine lv_iload_n hx hb dX5_goBack_156 rfl (lv_at hl 1 rfl) ?_
                  refine lv_sipush (v := nI 192) hx hb dX5_goBack_157 (by decide) ?_
                  refine lv_iadd hx hb dX5_goBack_160 ?_
                  refine topE (y := nI ((432 * i1) + 192)) (nI_add (432 * i1) 192) ?_
                  refine lv_iload_n hx hb dX5_goBack_161 rfl (lv_at hl 2 rfl) ?_
                  refine lv_iadd hx hb dX5_goBack_162 ?_
                  refine topE (y := nI (((432 * i1) + 192) + k)) (nI_add ((432 * i1) + 192) k) ?_
                  refine ialdN (f := u.2 37) (n := 864) (k := ((432 * i1) + 192) + k) hx hb hK hP 25 rfl rfl (by omega) dX5_goBack_163 ?_
                  refine iastN (f := f6) (n := 120) (k := k) hx hb hK hP hD hS 5 rfl rfl (by omega) dX5_goBack_164 (fun H locs hP hD hS => ?_)
                  have hP : PP G (mw G h (oA (oA (ln3 (oA (oA (oA (oI (oI (oI u 0 (nI n1)) 4 (nI q1)) 8 (nI 0)) 1 f1) 2 f2) 3 f3) f5 f6 f7) 5 (upd f5 k ((u.2 37) (((432 * i1) + 72) + k)))) 6 (upd f6 k ((u.2 37) (((432 * i1) + 192) + k)))) lt sj) H := hP
                  have hD : va_D A (mw G h (oA (oA (ln3 (oA (oA (oA (oI (oI (oI u 0 (nI n1)) 4 (nI q1)) 8 (nI 0)) 1 f1) 2 f2) 3 f3) f5 f6 f7) 5 (upd f5 k ((u.2 37) (((432 * i1) + 72) + k)))) 6 (upd f6 k ((u.2 37) (((432 * i1) + 192) + k)))) lt sj) := hD
                  refine lv_aload_n hx hb dX5_goBack_165 rfl (lv_at hl 0 rfl) ?_
                  refine va_get (D := gD G) (ci := 5) (v := .ref (h 7)) (C := RX5) (T := TX5) (N := 38) hx hb hts hiX5 hown hK hP 0 rfl rfl 7 (by decide) k25 (fun _ h9 => h9) rfl dX5_goBack_166 ?_
                  refine lv_iload_n hx hb dX5_goBack_169 rfl (lv_at hl 2 rfl) ?_
                  refine lv_aload_n hx hb dX5_goBack_170 rfl (lv_at hl 0 rfl) ?_
                  refine va_get (D := gD G) (ci := 5) (v := .ref (h 37)) (C := RX5) (T := TX5) (N := 38) hx hb hts hiX5 hown hK hP 0 rfl rfl 37 (by decide) k88 (fun _ h9 => h9) rfl dX5_goBack_171 ?_
                  refine lv_iload_n hx hb dX5_goBack_174 rfl (lv_at hl 1 rfl) ?_
                  refine lv_sipush (v := nI 312) hx hb dX5_goBack_175 (by decide) ?_
                  refine lv_iadd hx hb dX5_goBack_178 ?_
                  refine topE (y := nI ((432 * i1) + 312)) (nI_add (432 * i1) 312) ?_
                  refine lv_iload_n hx hb dX5_goBack_179 rfl (lv_at hl 2 rfl) ?_
                  refine lv_iadd hx hb dX5_goBack_180 ?_
                  refine topE (y := nI (((432 * i1) + 312) + k)) (nI_add ((432 * i1) + 312) k) ?_
                  refine ialdN (f := u.2 37) (n := 864) (k := ((432 * i1) + 312) + k) hx hb hK hP 25 rfl rfl (by omega) dX5_goBack_181 ?_
                  refine iastN (f := f7) (n := 120) (k := k) hx hb hK hP hD hS 6 rfl rfl (by omega) dX5_goBack_182 (fun H locs hP hD hS => ?_)
                  have hP : PP G (mw G h (oA (oA (oA (ln3 (oA (oA (oA (oI (oI (oI u 0 (nI n1)) 4 (nI q1)) 8 (nI 0)) 1 f1) 2 f2) 3 f3) f5 f6 f7) 5 (upd f5 k ((u.2 37) (((432 * i1) + 72) + k)))) 6 (upd f6 k ((u.2 37) (((432 * i1) + 192) + k)))) 7 (upd f7 k ((u.2 37) (((432 * i1) + 312) + k)))) lt sj) H := hP
                  have hD : va_D A (mw G h (oA (oA (oA (ln3 (oA (oA (oA (oI (oI (oI u 0 (nI n1)) 4 (nI q1)) 8 (nI 0)) 1 f1) 2 f2) 3 f3) f5 f6 f7) 5 (upd f5 k ((u.2 37) (((432 * i1) + 72) + k)))) 6 (upd f6 k ((u.2 37) (((432 * i1) + 192) + k)))) 7 (upd f7 k ((u.2 37) (((432 * i1) + 312) + k)))) lt sj) := hD
                  refine lv_iinc (v := nI (k + 1)) (lv' := [(3, .int (nI (k + 1))), (0, .ref (h 0)), (2, .int (nI (432 * i1)))]) hx hb dX5_goBack_183 hl (k := 2) rfl (nI_1 k) (by decide) rfl (fun ls hl => ?_)
                  refine lv_goto (tgt := 122) hx hb dX5_goBack_186 (by decide) ?_
                  exact ih122 (k + 1) (upd f5 k ((u.2 37) (((432 * i1) + 72) + k))) (upd f6 k ((u.2 37) (((432 * i1) + 192) + k))) (upd f7 k ((u.2 37) (((432 * i1) + 312) + k))) (by first | assumption | omega) (hp1) (by omega) _ _ ls hP hD hS (lv_sub hl [1, 2, 0] rfl)
            exact LP122 (q1 - 0 + 1) 0 (u.2 5) (u.2 6) (u.2 7) (by first | assumption | omega) (fun j hj => by rw [hf j (by omega)]; exact hpo j hj) (Nat.lt_succ_self _) _ _ ls hP hD hS (lv_sub hl [1, 2, 0] rfl)
          · skip
            have n63 : ¬ (n1 ≤ k) := fun q9 => c63 ((nI_leI (a := n1) (b := k) (by omega) (by omega)).mpr q9)
            refine lv_aload_n hx hb dX5_goBack_66 rfl (lv_at hl 0 rfl) ?_
            refine va_get (D := gD G) (ci := 5) (v := .ref (h 1)) (C := RX5) (T := TX5) (N := 38) hx hb hts hiX5 hown hK hP 0 rfl rfl 1 (by decide) k7 (fun _ h9 => h9) rfl dX5_goBack_67 ?_
            refine lv_iload_n hx hb dX5_goBack_70 rfl (lv_at hl 2 rfl) ?_
            refine lv_aload_n hx hb dX5_goBack_71 rfl (lv_at hl 0 rfl) ?_
            refine va_get (D := gD G) (ci := 5) (v := .ref (h 37)) (C := RX5) (T := TX5) (N := 38) hx hb hts hiX5 hown hK hP 0 rfl rfl 37 (by decide) k88 (fun _ h9 => h9) rfl dX5_goBack_72 ?_
            refine lv_iload_n hx hb dX5_goBack_75 rfl (lv_at hl 1 rfl) ?_
            refine lv_iload_n hx hb dX5_goBack_76 rfl (lv_at hl 2 rfl) ?_
            refine lv_iadd hx hb dX5_goBack_77 ?_
            refine topE (y := nI ((432 * i1) + k)) (nI_add (432 * i1) k) ?_
            refine ialdN (f := u.2 37) (n := 864) (k := (432 * i1) + k) hx hb hK hP 25 rfl rfl (by omega) dX5_goBack_78 ?_
            refine iastN (f := f1) (n := 25) (k := k) hx hb hK hP hD hS 1 rfl rfl (by omega) dX5_goBack_79 (fun H locs hP hD hS => ?_)
            have hP : PP G (mw G h (oA (oA (oA (oA (oI (oI (oI u 0 (nI n1)) 4 (nI q1)) 8 (nI 0)) 1 f1) 2 f2) 3 f3) 1 (upd f1 k ((u.2 37) ((432 * i1) + k)))) lt sj) H := hP
            have hD : va_D A (mw G h (oA (oA (oA (oA (oI (oI (oI u 0 (nI n1)) 4 (nI q1)) 8 (nI 0)) 1 f1) 2 f2) 3 f3) 1 (upd f1 k ((u.2 37) ((432 * i1) + k)))) lt sj) := hD
            refine lv_aload_n hx hb dX5_goBack_80 rfl (lv_at hl 0 rfl) ?_
            refine va_get (D := gD G) (ci := 5) (v := .ref (h 2)) (C := RX5) (T := TX5) (N := 38) hx hb hts hiX5 hown hK hP 0 rfl rfl 2 (by decide) k13 (fun _ h9 => h9) rfl dX5_goBack_81 ?_
            refine lv_iload_n hx hb dX5_goBack_84 rfl (lv_at hl 2 rfl) ?_
            refine lv_aload_n hx hb dX5_goBack_85 rfl (lv_at hl 0 rfl) ?_
            refine va_get (D := gD G) (ci := 5) (v := .ref (h 37)) (C := RX5) (T := TX5) (N := 38) hx hb hts hiX5 hown hK hP 0 rfl rfl 37 (by decide) k88 (fun _ h9 => h9) rfl dX5_goBack_86 ?_
            refine lv_iload_n hx hb dX5_goBack_89 rfl (lv_at hl 1 rfl) ?_
            refine lv_bipush (v := nI 24) hx hb dX5_goBack_90 (by decide) ?_
            refine lv_iadd hx hb dX5_goBack_92 ?_
            refine topE (y := nI ((432 * i1) + 24)) (nI_add (432 * i1) 24) ?_
            refine lv_iload_n hx hb dX5_goBack_93 rfl (lv_at hl 2 rfl) ?_
            refine lv_iadd hx hb dX5_goBack_94 ?_
            refine topE (y := nI (((432 * i1) + 24) + k)) (nI_add ((432 * i1) + 24) k) ?_
            refine ialdN (f := u.2 37) (n := 864) (k := ((432 * i1) + 24) + k) hx hb hK hP 25 rfl rfl (by omega) dX5_goBack_95 ?_
            refine iastN (f := f2) (n := 25) (k := k) hx hb hK hP hD hS 2 rfl rfl (by omega) dX5_goBack_96 (fun H locs hP hD hS => ?_)
            have hP : PP G (mw G h (oA (oA (oA (oA (oA (oI (oI (oI u 0 (nI n1)) 4 (nI q1)) 8 (nI 0)) 1 f1) 2 f2) 3 f3) 1 (upd f1 k ((u.2 37) ((432 * i1) + k)))) 2 (upd f2 k ((u.2 37) (((432 * i1) + 24) + k)))) lt sj) H := hP
            have hD : va_D A (mw G h (oA (oA (oA (oA (oA (oI (oI (oI u 0 (nI n1)) 4 (nI q1)) 8 (nI 0)) 1 f1) 2 f2) 3 f3) 1 (upd f1 k ((u.2 37) ((432 * i1) + k)))) 2 (upd f2 k ((u.2 37) (((432 * i1) + 24) + k)))) lt sj) := hD
            refine lv_aload_n hx hb dX5_goBack_97 rfl (lv_at hl 0 rfl) ?_
            refine va_get (D := gD G) (ci := 5) (v := .ref (h 3)) (C := RX5) (T := TX5) (N := 38) hx hb hts hiX5 hown hK hP 0 rfl rfl 3 (by decide) k16 (fun _ h9 => h9) rfl dX5_goBack_98 ?_
            refine lv_iload_n hx hb dX5_goBack_101 rfl (lv_at hl 2 rfl) ?_
            refine lv_aload_n hx hb dX5_goBack_102 rfl (lv_at hl 0 rfl) ?_
            refine va_get (D := gD G) (ci := 5) (v := .ref (h 37)) (C := RX5) (T := TX5) (N := 38) hx hb hts hiX5 hown hK hP 0 rfl rfl 37 (by decide) k88 (fun _ h9 => h9) rfl dX5_goBack_103 ?_
            refine lv_iload_n hx hb dX5_goBack_106 rfl (lv_at hl 1 rfl) ?_
            refine lv_bipush (v := nI 48) hx hb dX5_goBack_107 (by decide) ?_
            refine lv_iadd hx hb dX5_goBack_109 ?_
            refine topE (y := nI ((432 * i1) + 48)) (nI_add (432 * i1) 48) ?_
            refine lv_iload_n hx hb dX5_goBack_110 rfl (lv_at hl 2 rfl) ?_
            refine lv_iadd hx hb dX5_goBack_111 ?_
            refine topE (y := nI (((432 * i1) + 48) + k)) (nI_add ((432 * i1) + 48) k) ?_
            refine ialdN (f := u.2 37) (n := 864) (k := ((432 * i1) + 48) + k) hx hb hK hP 25 rfl rfl (by omega) dX5_goBack_112 ?_
            refine iastN (f := f3) (n := 25) (k := k) hx hb hK hP hD hS 3 rfl rfl (by omega) dX5_goBack_113 (fun H locs hP hD hS => ?_)
            have hP : PP G (mw G h (oA (oA (oA (oA (oA (oA (oI (oI (oI u 0 (nI n1)) 4 (nI q1)) 8 (nI 0)) 1 f1) 2 f2) 3 f3) 1 (upd f1 k ((u.2 37) ((432 * i1) + k)))) 2 (upd f2 k ((u.2 37) (((432 * i1) + 24) + k)))) 3 (upd f3 k ((u.2 37) (((432 * i1) + 48) + k)))) lt sj) H := hP
            have hD : va_D A (mw G h (oA (oA (oA (oA (oA (oA (oI (oI (oI u 0 (nI n1)) 4 (nI q1)) 8 (nI 0)) 1 f1) 2 f2) 3 f3) 1 (upd f1 k ((u.2 37) ((432 * i1) + k)))) 2 (upd f2 k ((u.2 37) (((432 * i1) + 24) + k)))) 3 (upd f3 k ((u.2 37) (((432 * i1) + 48) + k)))) lt sj) := hD
            refine lv_iinc (v := nI (k + 1)) (lv' := [(3, .int (nI (k + 1))), (0, .ref (h 0)), (2, .int (nI (432 * i1)))]) hx hb dX5_goBack_114 hl (k := 2) rfl (nI_1 k) (by decide) rfl (fun ls hl => ?_)
            refine lv_goto (tgt := 58) hx hb dX5_goBack_117 (by decide) ?_
            exact ih58 (k + 1) (upd f1 k ((u.2 37) ((432 * i1) + k))) (upd f2 k ((u.2 37) (((432 * i1) + 24) + k))) (upd f3 k ((u.2 37) (((432 * i1) + 48) + k))) (by first | assumption | omega) (cpA (g := fun j => u.2 37 (432 * i1 + j)) hf rfl) (by omega) _ _ ls hP hD hS (lv_sub hl [1, 2, 0] rfl)
      exact LP58 (n1 - 0 + 1) 0 ((oI (oI (oI u 0 (nI n1)) 4 (nI q1)) 8 (nI 0)).2 1) ((oI (oI (oI u 0 (nI n1)) 4 (nI q1)) 8 (nI 0)).2 2) ((oI (oI (oI u 0 (nI n1)) 4 (nI q1)) 8 (nI 0)).2 3) (by first | assumption | omega) (fun j h => absurd h (Nat.not_lt_zero j)) (Nat.lt_succ_self _) _ _ ls hP hD hS (lv_sub hl [2, 1, 0] rfl)
    · skip
      refine lv_ldc (v := (-1000000003 : Int32)) hx hb hown (hts (.constant RX5 225 (-1000000003)) (List.mem_of_getElem? (i := 3) rfl)) dX5_goBack_22 ?_
      exact W.iret (v := (-1000000003 : Int32)) hx hb hr (fun t ht hW => ⟨⟨(-1000000003 : Int32), (u, lt, sj), rfl, ⟨⟨nv, nl, nt, nh, hI0⟩, ⟨rfl, rfl, rfl⟩, rfl, rfl⟩, show PP G (mw G h u lt sj) t.heap by rw [ht]; exact hP⟩, hS.F ht⟩) hS.2.2 dX5_goBack_24
  · skip
    refine lv_if_ne (tgt := 13) hx hb dX5_goBack_7 (by decide) (fun c9 => absurd (by decide) c9) (fun _ => ?_)
    refine lv_ldc (v := (-1000000001 : Int32)) hx hb hown (hts (.constant RX5 216 (-1000000001)) (List.mem_of_getElem? (i := 1) rfl)) dX5_goBack_10 ?_
    exact W.iret (v := (-1000000001 : Int32)) hx hb hr (fun t ht hW => ⟨⟨(-1000000001 : Int32), (u, lt, sj), rfl, ⟨⟨nv, nl, nt, nh, hI0⟩, ⟨rfl, rfl, rfl⟩, rfl, rfl⟩, show PP G (mw G h u lt sj) t.heap by rw [ht]; exact hP⟩, hS.F ht⟩) hS.2.2 dX5_goBack_12
