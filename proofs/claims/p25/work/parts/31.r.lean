/-! Sheets and Reader: what their tests tell -/
theorem nI_of1 {x : Int32} (h : ¬ x < 0) : ∃ j, j < 2147483648 ∧ x = nI j := by
  obtain ⟨j, h1, h2⟩ := nI_of h
  exact ⟨j, h1, h2⟩
theorem fw_y {i n : Int32} {q : Nat} (hq : q ≤ 40) (h0 : ¬ i < 0) (h1 : ¬ n < 0) (h2 : ¬ nI q < i) (h3 : n ≤ nI q - i) : ∃ ji nn, i = nI ji ∧ n = nI nn ∧ ji + nn ≤ q := by
  obtain ⟨ji, a1, rfl⟩ := nI_of1 h0
  obtain ⟨nn, a2, rfl⟩ := nI_of1 h1
  have hj : ji ≤ q := by
    rcases Nat.lt_or_ge q ji with h | h
    · exact absurd ((nI_ltI (a := q) (b := ji) (by omega) (by omega)).mpr h) h2
    · exact h
  refine ⟨ji, nn, rfl, rfl, ?_⟩
  rw [pk_sub hj] at h3
  have := (nI_leI (a := nn) (b := q - ji) (by omega) (by omega)).mp h3
  omega
theorem fw_n {i n : Int32} {q : Nat} (hq : q ≤ 40) (h : i < 0 ∨ n < 0 ∨ nI q < i ∨ (¬ i < 0 ∧ ¬ nI q < i ∧ ¬ n ≤ nI q - i)) : ¬ ∃ ji nn, i = nI ji ∧ n = nI nn ∧ ji + nn ≤ q := by
  rintro ⟨ji, nn, rfl, rfl, hs⟩
  rcases h with h | h | h | ⟨h0, h1, h⟩
  · exact nI_pos (by omega) h
  · exact nI_pos (by omega) h
  · have := (nI_ltI (a := q) (b := ji) (by omega) (by omega)).mp h; omega
  · apply h
    rw [pk_sub (by omega)]
    exact (nI_leI (a := nn) (b := q - ji) (by omega) (by omega)).mpr (by omega)

set_option maxHeartbeats 1000000 in
set_option maxRecDepth 100000 in
theorem mt_X2_hasNumber (l : Launch) (G : gG) (h : Nat → Nat) (z : oS) (jj : Nat → Nat → Int64) (x : Int32) : Met l yX2_hasNumber wsX2_hasNumber ({ frames := 0, cells := 0, slots := 0, locals := 0 }) (preR G (sv G h z jj) [.ref (h 0), .int x]) (vp_Si (fun r : Int32 => (r = 1 ∧ ∃ j, j < 4 ∧ x = nI j) ∨ (r = 0 ∧ ∀ j, j < 4 → x ≠ nI j))) 0 0 (fun _ => False) := by
  refine Met.ofW (cc := cX2_hasNumber) (maxL := 2) (ret := (some .boolean)) (by decide) rfl ?_
  intro p e s m args below meth c s₁ B hml hv
  obtain ⟨ha, hP, hK, hN⟩ := hv
  subst ha
  have hx := B.exec
  have hb := B.bytes
  have hr := B.returns
  have hts := atoms_spec (ws := wsX2_hasNumber) B.pre
  have hown : s.vm.findClass RX2 = some m.cls := findClass_of_methodNamed B.named
  have hlocks := B.notSynchronized
  have hl := lv_entry ([.ref (h 0), .int x]) (n := 2) (Nat.le_of_ble_eq_true rfl)
  rw [lg_entry_eq]
  generalize (lg_sl ([.ref (h 0), .int x]) ++ List.replicate (2 - (lg_sl ([.ref (h 0), .int x])).length) Slot.unset).toArray = ls at hl ⊢
  have hl : lv_has ls 2 [(0, .ref (h 0)), (1, .int x)] := hl
  refine lv_iload_n hx hb dX2_hasNumber_0 rfl (lv_at hl 1 rfl) ?_
  refine lv_if_lt (tgt := 13) hx hb dX2_hasNumber_1 (by decide) (fun c1 => ?_) (fun c1 => ?_)
  · skip
    refine lv_iconst (v := nI 0) hx hb dX2_hasNumber_13 (by decide) ?_
    exact W.zret (v := nI 0) hx hb hr (by decide) (fun t ht hW => ⟨nI 0, rfl, by first | exact Or.inl ⟨rfl, hv_y (n := 4) (by omega) (by assumption) (by assumption)⟩ | exact Or.inr ⟨rfl, hv_n1 (n := 4) (by omega) (by assumption)⟩ | exact Or.inr ⟨rfl, hv_n2 (n := 4) (by omega) (by assumption)⟩, ht⟩) (fun _ h9 => by cases h9) dX2_hasNumber_14
  · skip
    refine lv_iload_n hx hb dX2_hasNumber_4 rfl (lv_at hl 1 rfl) ?_
    refine lv_iconst (v := nI 4) hx hb dX2_hasNumber_5 (by decide) ?_
    refine lv_icmp_ge (tgt := 13) hx hb dX2_hasNumber_6 (by decide) (fun c6 => ?_) (fun c6 => ?_)
    · skip
      refine lv_iconst (v := nI 0) hx hb dX2_hasNumber_13 (by decide) ?_
      exact W.zret (v := nI 0) hx hb hr (by decide) (fun t ht hW => ⟨nI 0, rfl, by first | exact Or.inl ⟨rfl, hv_y (n := 4) (by omega) (by assumption) (by assumption)⟩ | exact Or.inr ⟨rfl, hv_n1 (n := 4) (by omega) (by assumption)⟩ | exact Or.inr ⟨rfl, hv_n2 (n := 4) (by omega) (by assumption)⟩, ht⟩) (fun _ h9 => by cases h9) dX2_hasNumber_14
    · skip
      refine lv_iconst (v := nI 1) hx hb dX2_hasNumber_9 (by decide) ?_
      refine lv_goto (tgt := 14) hx hb dX2_hasNumber_10 (by decide) ?_
      exact W.zret (v := nI 1) hx hb hr (by decide) (fun t ht hW => ⟨nI 1, rfl, by first | exact Or.inl ⟨rfl, hv_y (n := 4) (by omega) (by assumption) (by assumption)⟩ | exact Or.inr ⟨rfl, hv_n1 (n := 4) (by omega) (by assumption)⟩ | exact Or.inr ⟨rfl, hv_n2 (n := 4) (by omega) (by assumption)⟩, ht⟩) (fun _ h9 => by cases h9) dX2_hasNumber_14
set_option maxHeartbeats 1000000 in
set_option maxRecDepth 100000 in
theorem mt_X2_countThere (l : Launch) (G : gG) (h : Nat → Nat) (z : oS) (jj : Nat → Nat → Int64) : Met l yX2_countThere wsX2_countThere ({ frames := 0, cells := 0, slots := 0, locals := 0 }) (preR G (sv G h z jj) [.ref (h 0)]) (vp_Si (fun r : Int32 => True)) 0 0 (fun _ => False) := by
  refine Met.ofW (cc := cX2_countThere) (maxL := 3) (ret := (some .int)) (by decide) rfl ?_
  intro p e s m args below meth c s₁ B hml hv
  obtain ⟨ha, hP, hK, hN⟩ := hv
  subst ha
  have hx := B.exec
  have hb := B.bytes
  have hr := B.returns
  have hts := atoms_spec (ws := wsX2_countThere) B.pre
  have hown : s.vm.findClass RX2 = some m.cls := findClass_of_methodNamed B.named
  have hlocks := B.notSynchronized
  have hiX2 : ∀ w ∈ wsX20, w ∈ wsX2_countThere := fun w h9 => List.mem_cons_of_mem _ (List.mem_append_right _ (h9))
  have k16 := hts (.fieldLink RX2 16 "WovenHistory$Sheets" "sizes" "[I") (List.mem_of_getElem? (i := 1) rfl)
  have hl := lv_entry ([.ref (h 0)]) (n := 3) (Nat.le_of_ble_eq_true rfl)
  rw [lg_entry_eq]
  generalize (lg_sl ([.ref (h 0)]) ++ List.replicate (3 - (lg_sl ([.ref (h 0)])).length) Slot.unset).toArray = ls at hl ⊢
  have hl : lv_has ls 3 [(0, .ref (h 0))] := hl
  refine lv_iconst (v := nI 0) hx hb dX2_countThere_0 (by decide) ?_
  refine lv_istore_n (lv' := [(1, .int (nI 0)), (0, .ref (h 0))]) hx hb dX2_countThere_1 rfl hl (by decide) rfl (fun ls hl => ?_)
  refine lv_iconst (v := nI 0) hx hb dX2_countThere_2 (by decide) ?_
  refine lv_istore_n (lv' := [(2, .int (nI 0)), (1, .int (nI 0)), (0, .ref (h 0))]) hx hb dX2_countThere_3 rfl hl (by decide) rfl (fun ls hl => ?_)
  have LP4 : ∀ (n4m : Nat), ∀ (k : Nat) (y : Int32) (hk : k ≤ 4), (4 - k < n4m) → ∀ (ls : Array Slot), lv_has ls 3 [(0, .ref (h 0)), (1, .int y), (2, .int (nI k))] → W p l e (headSpec wsX2_countThere ({ frames := 0, cells := 0, slots := 0, locals := 0 })).room s m ([.ref (h 0)] : List Value).toArray below meth c s.heap [] 0 0 (MQ below (vp_Si (fun r : Int32 => True)) ([.ref (h 0)] : List Value).toArray s 0 0 (fun _ => False)) (F0 m 4 ls []) := by
    intro n4m
    induction n4m with
    | zero => intro k y hk hmu ls hl; exact absurd hmu (Nat.not_lt_zero _)
    | succ n4m ih4 =>
      intro k y hk hmu ls hl
      refine lv_iload_n hx hb dX2_countThere_4 rfl (lv_at hl 2 rfl) ?_
      refine lv_iconst (v := nI 4) hx hb dX2_countThere_5 (by decide) ?_
      refine lv_icmp_ge (tgt := 28) hx hb dX2_countThere_6 (by decide) (fun c6 => ?_) (fun c6 => ?_)
      · skip
        have n6 : 4 ≤ k := (nI_leI (a := 4) (b := k) (by omega) (by omega)).mp c6
        refine lv_iload_n hx hb dX2_countThere_28 rfl (lv_at hl 1 rfl) ?_
        exact W.iret (v := y) hx hb hr (fun t ht hW => ⟨y, rfl, by first | rfl | trivial | omega | assumption, ht⟩) (fun _ h9 => by cases h9) dX2_countThere_29
      · skip
        have n6 : ¬ (4 ≤ k) := fun q9 => c6 ((nI_leI (a := 4) (b := k) (by omega) (by omega)).mpr q9)
        refine lv_aload_n hx hb dX2_countThere_9 rfl (lv_at hl 0 rfl) ?_
        refine va_get (D := gD G) (ci := 2) (v := .ref (h 2)) (C := RX2) (T := TX2) (N := 2) hx hb hts hiX2 hown hK hP 0 rfl rfl 1 (by decide) k16 (fun _ h9 => h9) rfl dX2_countThere_10 ?_
        refine lv_iload_n hx hb dX2_countThere_13 rfl (lv_at hl 2 rfl) ?_
        refine ialdN (f := z.2 1) (n := 4) (k := k) hx hb hK hP 2 rfl rfl (by omega) dX2_countThere_14 ?_
        refine lv_iconst (v := (-1 : Int32)) hx hb dX2_countThere_15 (by decide) ?_
        refine lv_icmp_eq (tgt := 22) hx hb dX2_countThere_16 (by decide) (fun c16 => ?_) (fun c16 => ?_)
        · skip
          refine lv_iinc (v := nI (k + 1)) (lv' := [(2, .int (nI (k + 1))), (0, .ref (h 0)), (1, .int y)]) hx hb dX2_countThere_22 hl (k := 2) rfl (nI_1 k) (by decide) rfl (fun ls hl => ?_)
          refine lv_goto (tgt := 4) hx hb dX2_countThere_25 (by decide) ?_
          exact ih4 (k + 1) y (by first | assumption | omega) (by omega) ls (lv_sub hl [1, 2, 0] rfl)
        · skip
          refine lv_iinc (v := y + 1) (lv' := [(1, .int (y + 1)), (0, .ref (h 0)), (2, .int (nI k))]) hx hb dX2_countThere_19 hl (k := 1) rfl (rfl) (by decide) rfl (fun ls hl => ?_)
          refine lv_iinc (v := nI (k + 1)) (lv' := [(2, .int (nI (k + 1))), (1, .int (y + 1)), (0, .ref (h 0))]) hx hb dX2_countThere_22 hl (k := 2) rfl (nI_1 k) (by decide) rfl (fun ls hl => ?_)
          refine lv_goto (tgt := 4) hx hb dX2_countThere_25 (by decide) ?_
          exact ih4 (k + 1) (y + 1) (by first | assumption | omega) (by omega) ls (lv_sub hl [2, 1, 0] rfl)
  exact LP4 (4 - 0 + 1) 0 (nI 0) (by first | assumption | omega) (Nat.lt_succ_self _) ls (lv_sub hl [2, 1, 0] rfl)
set_option maxHeartbeats 1000000 in
set_option maxRecDepth 100000 in
theorem mt_X2_findWrong (l : Launch) (G : gG) (h : Nat → Nat) (z : oS) (jj : Nat → Nat → Int64) (s1 : Int32) (i1 : Int32) (n1 : Int32) (hsz : ∀ j, j < 4 → z.2 1 j = -1 ∨ ∃ q, q ≤ 40 ∧ z.2 1 j = nI q) : Met l yX2_findWrong wsX2_findWrong ({ frames := 1, cells := 0, slots := 0, locals := 21 }) (preR G (sv G h z jj) [.ref (h 0), .int s1, .int i1, .int n1]) (vp_Si (fun r : Int32 => (r = 0 ∧ ∃ js ji nn q, js < 4 ∧ s1 = nI js ∧ q ≤ 40 ∧ z.2 1 js = nI q ∧ i1 = nI ji ∧ n1 = nI nn ∧ ji + nn ≤ q) ∨ (r = -1000000001 ∧ ∀ j, j < 4 → s1 ≠ nI j) ∨ (r = -1000000011 ∧ ∃ js, js < 4 ∧ s1 = nI js ∧ z.2 1 js = -1) ∨ (r = -1000000012 ∧ ∃ js q, js < 4 ∧ s1 = nI js ∧ q ≤ 40 ∧ z.2 1 js = nI q ∧ ¬ ∃ ji nn, i1 = nI ji ∧ n1 = nI nn ∧ ji + nn ≤ q))) 0 0 (fun _ => False) := by
  refine Met.ofW (cc := cX2_findWrong) (maxL := 4) (ret := (some .int)) (by decide) rfl ?_
  intro p e s m args below meth c s₁ B hml hv
  obtain ⟨ha, hP, hK, hN⟩ := hv
  subst ha
  have hx := B.exec
  have hb := B.bytes
  have hr := B.returns
  have hts := atoms_spec (ws := wsX2_findWrong) B.pre
  have hown : s.vm.findClass RX2 = some m.cls := findClass_of_methodNamed B.named
  have hlocks := B.notSynchronized
  have hiX2 : ∀ w ∈ wsX20, w ∈ wsX2_findWrong := fun w h9 => List.mem_cons_of_mem _ (List.mem_append_right _ (h9))
  have k16 := hts (.fieldLink RX2 16 "WovenHistory$Sheets" "sizes" "[I") (List.mem_of_getElem? (i := 2) rfl)
  have hl := lv_entry ([.ref (h 0), .int s1, .int i1, .int n1]) (n := 4) (Nat.le_of_ble_eq_true rfl)
  rw [lg_entry_eq]
  generalize (lg_sl ([.ref (h 0), .int s1, .int i1, .int n1]) ++ List.replicate (4 - (lg_sl ([.ref (h 0), .int s1, .int i1, .int n1])).length) Slot.unset).toArray = ls at hl ⊢
  have hl : lv_has ls 4 [(0, .ref (h 0)), (1, .int s1), (2, .int i1), (3, .int n1)] := hl
  refine lv_aload_n hx hb dX2_findWrong_0 rfl (lv_at hl 0 rfl) ?_
  refine lv_iload_n hx hb dX2_findWrong_1 rfl (lv_at hl 1 rfl) ?_
  refine cRi (w := sv G h z jj) (As := [.int s1]) (rest := []) ⟨hx, hb, hml, hown, hts⟩ (mt_X2_hasNumber l G h z jj s1) (cwV 1 hts gX2_findWrong_X2_hasNumber rfl rfl rfl ⟨rfl, hd_X2_hasNumber⟩ ⟨Nat.le_of_ble_eq_true rfl, Nat.le_of_ble_eq_true rfl⟩) hK hN hP 0 2 rfl rfl rfl hl.1 rfl (Nat.le_of_ble_eq_true rfl) ⟨Nat.zero_le _, Nat.zero_le _⟩ dX2_findWrong_2 (fun r2 hw2 => ?_)
  rcases hw2 with ⟨rfl, j2, hj2, rfl⟩ | ⟨rfl, hn2⟩
  · skip
    refine lv_if_ne (tgt := 11) hx hb dX2_findWrong_5 (by decide) (fun _ => ?_) (fun c9 => absurd c9 (by decide))
    refine lv_aload_n hx hb dX2_findWrong_11 rfl (lv_at hl 0 rfl) ?_
    refine va_get (D := gD G) (ci := 2) (v := .ref (h 2)) (C := RX2) (T := TX2) (N := 2) hx hb hts hiX2 hown hK hP 0 rfl rfl 1 (by decide) k16 (fun _ h9 => h9) rfl dX2_findWrong_12 ?_
    refine lv_iload_n hx hb dX2_findWrong_15 rfl (lv_at hl 1 rfl) ?_
    refine ialdN (f := z.2 1) (n := 4) (k := j2) hx hb hK hP 2 rfl rfl (by omega) dX2_findWrong_16 ?_
    refine lv_iconst (v := (-1 : Int32)) hx hb dX2_findWrong_17 (by decide) ?_
    refine lv_icmp_ne (tgt := 24) hx hb dX2_findWrong_18 (by decide) (fun c18 => ?_) (fun c18 => ?_)
    · skip
      obtain ⟨q18, hq18, eq18⟩ := (hsz j2 hj2).resolve_left c18
      refine lv_iload_n hx hb dX2_findWrong_24 rfl (lv_at hl 2 rfl) ?_
      refine lv_if_lt (tgt := 54) hx hb dX2_findWrong_25 (by decide) (fun c25 => ?_) (fun c25 => ?_)
      · skip
        refine lv_ldc (v := (-1000000012 : Int32)) hx hb hown (hts (.constant RX2 26 (-1000000012)) (List.mem_of_getElem? (i := 4) rfl)) dX2_findWrong_54 ?_
        exact W.iret (v := (-1000000012 : Int32)) hx hb hr (fun t ht hW => ⟨(-1000000012 : Int32), rfl, Or.inr (Or.inr (Or.inr ⟨rfl, j2, q18, hj2, rfl, hq18, eq18, fw_n hq18 (by first | exact Or.inl (by assumption) | exact Or.inr (Or.inl (by assumption)) | exact Or.inr (Or.inr (Or.inl (by assumption))) | exact Or.inr (Or.inr (Or.inr ⟨by assumption, by assumption, by assumption⟩)))⟩)), ht⟩) (fun _ h9 => by cases h9) dX2_findWrong_56
      · skip
        refine lv_iload_n hx hb dX2_findWrong_28 rfl (lv_at hl 3 rfl) ?_
        refine lv_if_lt (tgt := 54) hx hb dX2_findWrong_29 (by decide) (fun c29 => ?_) (fun c29 => ?_)
        · skip
          refine lv_ldc (v := (-1000000012 : Int32)) hx hb hown (hts (.constant RX2 26 (-1000000012)) (List.mem_of_getElem? (i := 4) rfl)) dX2_findWrong_54 ?_
          exact W.iret (v := (-1000000012 : Int32)) hx hb hr (fun t ht hW => ⟨(-1000000012 : Int32), rfl, Or.inr (Or.inr (Or.inr ⟨rfl, j2, q18, hj2, rfl, hq18, eq18, fw_n hq18 (by first | exact Or.inl (by assumption) | exact Or.inr (Or.inl (by assumption)) | exact Or.inr (Or.inr (Or.inl (by assumption))) | exact Or.inr (Or.inr (Or.inr ⟨by assumption, by assumption, by assumption⟩)))⟩)), ht⟩) (fun _ h9 => by cases h9) dX2_findWrong_56
        · skip
          refine lv_iload_n hx hb dX2_findWrong_32 rfl (lv_at hl 2 rfl) ?_
          refine lv_aload_n hx hb dX2_findWrong_33 rfl (lv_at hl 0 rfl) ?_
          refine va_get (D := gD G) (ci := 2) (v := .ref (h 2)) (C := RX2) (T := TX2) (N := 2) hx hb hts hiX2 hown hK hP 0 rfl rfl 1 (by decide) k16 (fun _ h9 => h9) rfl dX2_findWrong_34 ?_
          refine lv_iload_n hx hb dX2_findWrong_37 rfl (lv_at hl 1 rfl) ?_
          refine ialdN (f := z.2 1) (n := 4) (k := j2) hx hb hK hP 2 rfl rfl (by omega) dX2_findWrong_38 ?_
          refine topE eq18 ?_
          refine lv_icmp_gt (tgt := 54) hx hb dX2_findWrong_39 (by decide) (fun c39 => ?_) (fun c39 => ?_)
          · skip
            refine lv_ldc (v := (-1000000012 : Int32)) hx hb hown (hts (.constant RX2 26 (-1000000012)) (List.mem_of_getElem? (i := 4) rfl)) dX2_findWrong_54 ?_
            exact W.iret (v := (-1000000012 : Int32)) hx hb hr (fun t ht hW => ⟨(-1000000012 : Int32), rfl, Or.inr (Or.inr (Or.inr ⟨rfl, j2, q18, hj2, rfl, hq18, eq18, fw_n hq18 (by first | exact Or.inl (by assumption) | exact Or.inr (Or.inl (by assumption)) | exact Or.inr (Or.inr (Or.inl (by assumption))) | exact Or.inr (Or.inr (Or.inr ⟨by assumption, by assumption, by assumption⟩)))⟩)), ht⟩) (fun _ h9 => by cases h9) dX2_findWrong_56
          · skip
            refine lv_iload_n hx hb dX2_findWrong_42 rfl (lv_at hl 3 rfl) ?_
            refine lv_aload_n hx hb dX2_findWrong_43 rfl (lv_at hl 0 rfl) ?_
            refine va_get (D := gD G) (ci := 2) (v := .ref (h 2)) (C := RX2) (T := TX2) (N := 2) hx hb hts hiX2 hown hK hP 0 rfl rfl 1 (by decide) k16 (fun _ h9 => h9) rfl dX2_findWrong_44 ?_
            refine lv_iload_n hx hb dX2_findWrong_47 rfl (lv_at hl 1 rfl) ?_
            refine ialdN (f := z.2 1) (n := 4) (k := j2) hx hb hK hP 2 rfl rfl (by omega) dX2_findWrong_48 ?_
            refine topE eq18 ?_
            refine lv_iload_n hx hb dX2_findWrong_49 rfl (lv_at hl 2 rfl) ?_
            refine lv_isub hx hb dX2_findWrong_50 ?_
            refine lv_icmp_le (tgt := 57) hx hb dX2_findWrong_51 (by decide) (fun c51 => ?_) (fun c51 => ?_)
            · skip
              refine lv_iconst (v := nI 0) hx hb dX2_findWrong_57 (by decide) ?_
              exact W.iret (v := nI 0) hx hb hr (fun t ht hW => ⟨nI 0, rfl, by obtain ⟨ji, nn, e1, e2, e3⟩ := fw_y hq18 c25 c29 c39 c51; exact Or.inl ⟨rfl, j2, ji, nn, q18, hj2, rfl, hq18, eq18, e1, e2, e3⟩, ht⟩) (fun _ h9 => by cases h9) dX2_findWrong_58
            · skip
              refine lv_ldc (v := (-1000000012 : Int32)) hx hb hown (hts (.constant RX2 26 (-1000000012)) (List.mem_of_getElem? (i := 4) rfl)) dX2_findWrong_54 ?_
              exact W.iret (v := (-1000000012 : Int32)) hx hb hr (fun t ht hW => ⟨(-1000000012 : Int32), rfl, Or.inr (Or.inr (Or.inr ⟨rfl, j2, q18, hj2, rfl, hq18, eq18, fw_n hq18 (by first | exact Or.inl (by assumption) | exact Or.inr (Or.inl (by assumption)) | exact Or.inr (Or.inr (Or.inl (by assumption))) | exact Or.inr (Or.inr (Or.inr ⟨by assumption, by assumption, by assumption⟩)))⟩)), ht⟩) (fun _ h9 => by cases h9) dX2_findWrong_56
    · skip
      refine lv_ldc (v := (-1000000011 : Int32)) hx hb hown (hts (.constant RX2 25 (-1000000011)) (List.mem_of_getElem? (i := 3) rfl)) dX2_findWrong_21 ?_
      exact W.iret (v := (-1000000011 : Int32)) hx hb hr (fun t ht hW => ⟨(-1000000011 : Int32), rfl, Or.inr (Or.inr (Or.inl ⟨rfl, j2, hj2, rfl, c18⟩)), ht⟩) (fun _ h9 => by cases h9) dX2_findWrong_23
  · skip
    refine lv_if_ne (tgt := 11) hx hb dX2_findWrong_5 (by decide) (fun c9 => absurd (by decide) c9) (fun _ => ?_)
    refine lv_ldc (v := (-1000000001 : Int32)) hx hb hown (hts (.constant RX2 24 (-1000000001)) (List.mem_of_getElem? (i := 1) rfl)) dX2_findWrong_8 ?_
    exact W.iret (v := (-1000000001 : Int32)) hx hb hr (fun t ht hW => ⟨(-1000000001 : Int32), rfl, Or.inr (Or.inl ⟨rfl, by assumption⟩), ht⟩) (fun _ h9 => by cases h9) dX2_findWrong_10
