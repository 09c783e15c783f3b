set_option maxHeartbeats 1000000 in
set_option maxRecDepth 100000 in
theorem mt_X5_bits (l : Launch) (se : Int32) : Met l yX5_bits wsX5_bits ({ frames := 0, cells := 0, slots := 0, locals := 0 }) (preS [.int se]) (vp_Si (fun r : Int32 => True)) 0 0 (fun _ => False) := by
  refine Met.ofW (cc := cX5_bits) (maxL := 3) (ret := (some .int)) (by decide) rfl ?_
  intro p e s m args below meth c s₁ B hml hv
  obtain ⟨ha, -⟩ := hv
  subst ha
  have hx := B.exec
  have hb := B.bytes
  have hr := B.returns
  have hts := atoms_spec (ws := wsX5_bits) B.pre
  have hown : s.vm.findClass RX5 = some m.cls := findClass_of_methodNamed B.named
  have hlocks := B.notSynchronized
  have hl := lv_entry ([.int se]) (n := 3) (Nat.le_of_ble_eq_true rfl)
  rw [lg_entry_eq]
  generalize (lg_sl ([.int se]) ++ List.replicate (3 - (lg_sl ([.int se])).length) Slot.unset).toArray = ls at hl ⊢
  have hl : lv_has ls 3 [(0, .int se)] := hl
  refine lv_iconst (v := nI 0) hx hb dX5_bits_0 (by decide) ?_
  refine lv_istore_n (lv' := [(1, .int (nI 0)), (0, .int se)]) hx hb dX5_bits_1 rfl hl (by decide) rfl (fun ls hl => ?_)
  refine lv_iconst (v := nI 0) hx hb dX5_bits_2 (by decide) ?_
  refine lv_istore_n (lv' := [(2, .int (nI 0)), (1, .int (nI 0)), (0, .int se)]) hx hb dX5_bits_3 rfl hl (by decide) rfl (fun ls hl => ?_)
  have LP4 : ∀ (n4m : Nat), ∀ (k : Nat) (x : Int32) (hk : k ≤ 24), (24 - k < n4m) → ∀ (ls : Array Slot), lv_has ls 3 [(0, .int se), (1, .int x), (2, .int (nI k))] → W p l e (headSpec wsX5_bits ({ frames := 0, cells := 0, slots := 0, locals := 0 })).room s m ([.int se] : List Value).toArray below meth c s.heap [] 0 0 (MQ below (vp_Si (fun r : Int32 => True)) ([.int se] : List Value).toArray s 0 0 (fun _ => False)) (F0 m 4 ls []) := by
    intro n4m
    induction n4m with
    | zero => intro k x hk hmu ls hl; exact absurd hmu (Nat.not_lt_zero _)
    | succ n4m ih4 =>
      intro k x hk hmu ls hl
      refine lv_iload_n hx hb dX5_bits_4 rfl (lv_at hl 2 rfl) ?_
      refine lv_bipush (v := nI 24) hx hb dX5_bits_5 (by decide) ?_
      refine lv_icmp_ge (tgt := 24) hx hb dX5_bits_7 (by decide) (fun c7 => ?_) (fun c7 => ?_)
      · skip
        have n7 : 24 ≤ k := (nI_leI (a := 24) (b := k) (by omega) (by omega)).mp c7
        refine lv_iload_n hx hb dX5_bits_24 rfl (lv_at hl 1 rfl) ?_
        exact W.iret (v := x) hx hb hr (fun t ht hW => ⟨x, rfl, by first | rfl | trivial | omega | assumption, ht⟩) (fun _ h9 => by cases h9) dX5_bits_25
      · skip
        have n7 : ¬ (24 ≤ k) := fun q9 => c7 ((nI_leI (a := 24) (b := k) (by omega) (by omega)).mpr q9)
        refine lv_iload_n hx hb dX5_bits_10 rfl (lv_at hl 1 rfl) ?_
        refine lv_iload_n hx hb dX5_bits_11 rfl (lv_at hl 0 rfl) ?_
        refine lv_iload_n hx hb dX5_bits_12 rfl (lv_at hl 2 rfl) ?_
        refine lv_ishr hx hb dX5_bits_13 ?_
        refine lv_iconst (v := (1 : Int32)) hx hb dX5_bits_14 (by decide) ?_
        refine lv_iand hx hb dX5_bits_15 ?_
        refine lv_iadd hx hb dX5_bits_16 ?_
        refine lv_istore_n (lv' := [(1, .int (x + ((se >>> ((nI k) &&& 31)) &&& (1 : Int32)))), (0, .int se), (2, .int (nI k))]) hx hb dX5_bits_17 rfl hl (by decide) rfl (fun ls hl => ?_)
        refine lv_iinc (v := nI (k + 1)) (lv' := [(2, .int (nI (k + 1))), (1, .int (x + ((se >>> ((nI k) &&& 31)) &&& (1 : Int32)))), (0, .int se)]) hx hb dX5_bits_18 hl (k := 2) rfl (nI_1 k) (by decide) rfl (fun ls hl => ?_)
        refine lv_goto (tgt := 4) hx hb dX5_bits_21 (by decide) ?_
        exact ih4 (k + 1) (x + ((se >>> ((nI k) &&& 31)) &&& (1 : Int32))) (by first | assumption | omega) (by omega) ls (lv_sub hl [2, 1, 0] rfl)
  exact LP4 (24 - 0 + 1) 0 (nI 0) (by first | assumption | omega) (Nat.lt_succ_self _) ls (lv_sub hl [2, 1, 0] rfl)
set_option maxHeartbeats 1000000 in
set_option maxRecDepth 100000 in
theorem mt_X5_isNewBlock (l : Launch) (G : gG) (h : Nat → Nat) (u : oS) (lt : Int64) (sj : Nat → Int64) (i : Nat) (hi : i < 120) : Met l yX5_isNewBlock wsX5_isNewBlock ({ frames := 0, cells := 0, slots := 0, locals := 0 }) (preR G (mw G h u lt sj) [.ref (h 0), .int (nI i)]) (vp_Si (fun r : Int32 => (r = 1 ∧ nbb (u.2 6) (u.2 7) i = true) ∨ (r = 0 ∧ nbb (u.2 6) (u.2 7) i = false))) 0 0 (fun _ => False) := by
  refine Met.ofW (cc := cX5_isNewBlock) (maxL := 2) (ret := (some .boolean)) (by decide) rfl ?_
  intro p e s m args below meth c s₁ B hml hv
  obtain ⟨ha, hP, hK, hN⟩ := hv
  subst ha
  have hx := B.exec
  have hb := B.bytes
  have hr := B.returns
  have hts := atoms_spec (ws := wsX5_isNewBlock) B.pre
  have hown : s.vm.findClass RX5 = some m.cls := findClass_of_methodNamed B.named
  have hlocks := B.notSynchronized
  have hiX5 : ∀ w ∈ wsX50, w ∈ wsX5_isNewBlock := fun w h9 => List.mem_cons_of_mem _ (List.mem_append_right _ (h9))
  have k22 := hts (.fieldLink RX5 22 "WovenHistoryModel" "brought" "[I") (List.mem_of_getElem? (i := 1) rfl)
  have k25 := hts (.fieldLink RX5 25 "WovenHistoryModel" "took" "[I") (List.mem_of_getElem? (i := 2) rfl)
  have hl := lv_entry ([.ref (h 0), .int (nI i)]) (n := 2) (Nat.le_of_ble_eq_true rfl)
  rw [lg_entry_eq]
  generalize (lg_sl ([.ref (h 0), .int (nI i)]) ++ List.replicate (2 - (lg_sl ([.ref (h 0), .int (nI i)])).length) Slot.unset).toArray = ls at hl ⊢
  have hl : lv_has ls 2 [(0, .ref (h 0)), (1, .int (nI i))] := hl
  refine lv_iload_n hx hb dX5_isNewBlock_0 rfl (lv_at hl 1 rfl) ?_
  refine lv_if_eq (tgt := 38) hx hb dX5_isNewBlock_1 (by decide) (fun c1 => ?_) (fun c1 => ?_)
  · skip
    have n1 : i = 0 := (nI_eq (a := i) (b := 0) (by omega) (by omega)).mp c1
    refine lv_iconst (v := nI 1) hx hb dX5_isNewBlock_38 (by decide) ?_
    refine lv_goto (tgt := 43) hx hb dX5_isNewBlock_39 (by decide) ?_
    exact W.zret (v := nI 1) hx hb hr (by decide) (fun t ht hW => ⟨nI 1, rfl, by first | exact Or.inl ⟨rfl, by simp [nbb, *]⟩ | exact Or.inr ⟨rfl, by simp [nbb, *]⟩, ht⟩) (fun _ h9 => by cases h9) dX5_isNewBlock_43
  · skip
    have n1 : ¬ (i = 0) := fun q9 => c1 ((nI_eq (a := i) (b := 0) (by omega) (by omega)).mpr q9)
    refine lv_aload_n hx hb dX5_isNewBlock_4 rfl (lv_at hl 0 rfl) ?_
    refine va_get (D := gD G) (ci := 5) (v := .ref (h 6)) (C := RX5) (T := TX5) (N := 38) hx hb hts hiX5 hown hK hP 0 rfl rfl 6 (by decide) k22 (fun _ h9 => h9) rfl dX5_isNewBlock_5 ?_
    refine lv_iload_n hx hb dX5_isNewBlock_8 rfl (lv_at hl 1 rfl) ?_
    refine ialdN (f := u.2 6) (n := 120) (k := i) hx hb hK hP 5 rfl rfl (by omega) dX5_isNewBlock_9 ?_
    refine lv_aload_n hx hb dX5_isNewBlock_10 rfl (lv_at hl 0 rfl) ?_
    refine va_get (D := gD G) (ci := 5) (v := .ref (h 6)) (C := RX5) (T := TX5) (N := 38) hx hb hts hiX5 hown hK hP 0 rfl rfl 6 (by decide) k22 (fun _ h9 => h9) rfl dX5_isNewBlock_11 ?_
    refine lv_iload_n hx hb dX5_isNewBlock_14 rfl (lv_at hl 1 rfl) ?_
    refine lv_iconst (v := nI 1) hx hb dX5_isNewBlock_15 (by decide) ?_
    refine lv_isub hx hb dX5_isNewBlock_16 ?_
    refine topE (y := nI (i - 1)) (pk_sub (by omega)) ?_
    refine ialdN (f := u.2 6) (n := 120) (k := i - 1) hx hb hK hP 5 rfl rfl (by omega) dX5_isNewBlock_17 ?_
    refine lv_icmp_ne (tgt := 38) hx hb dX5_isNewBlock_18 (by decide) (fun c18 => ?_) (fun c18 => ?_)
    · skip
      refine lv_iconst (v := nI 1) hx hb dX5_isNewBlock_38 (by decide) ?_
      refine lv_goto (tgt := 43) hx hb dX5_isNewBlock_39 (by decide) ?_
      exact W.zret (v := nI 1) hx hb hr (by decide) (fun t ht hW => ⟨nI 1, rfl, by first | exact Or.inl ⟨rfl, by simp [nbb, *]⟩ | exact Or.inr ⟨rfl, by simp [nbb, *]⟩, ht⟩) (fun _ h9 => by cases h9) dX5_isNewBlock_43
    · skip
      refine lv_aload_n hx hb dX5_isNewBlock_21 rfl (lv_at hl 0 rfl) ?_
      refine va_get (D := gD G) (ci := 5) (v := .ref (h 7)) (C := RX5) (T := TX5) (N := 38) hx hb hts hiX5 hown hK hP 0 rfl rfl 7 (by decide) k25 (fun _ h9 => h9) rfl dX5_isNewBlock_22 ?_
      refine lv_iload_n hx hb dX5_isNewBlock_25 rfl (lv_at hl 1 rfl) ?_
      refine ialdN (f := u.2 7) (n := 120) (k := i) hx hb hK hP 6 rfl rfl (by omega) dX5_isNewBlock_26 ?_
      refine lv_aload_n hx hb dX5_isNewBlock_27 rfl (lv_at hl 0 rfl) ?_
      refine va_get (D := gD G) (ci := 5) (v := .ref (h 7)) (C := RX5) (T := TX5) (N := 38) hx hb hts hiX5 hown hK hP 0 rfl rfl 7 (by decide) k25 (fun _ h9 => h9) rfl dX5_isNewBlock_28 ?_
      refine lv_iload_n hx hb dX5_isNewBlock_31 rfl (lv_at hl 1 rfl) ?_
      refine lv_iconst (v := nI 1) hx hb dX5_isNewBlock_32 (by decide) ?_
      refine lv_isub hx hb dX5_isNewBlock_33 ?_
      refine topE (y := nI (i - 1)) (pk_sub (by omega)) ?_
      refine ialdN (f := u.2 7) (n := 120) (k := i - 1) hx hb hK hP 6 rfl rfl (by omega) dX5_isNewBlock_34 ?_
      refine lv_icmp_eq (tgt := 42) hx hb dX5_isNewBlock_35 (by decide) (fun c35 => ?_) (fun c35 => ?_)
      · skip
        refine lv_iconst (v := nI 0) hx hb dX5_isNewBlock_42 (by decide) ?_
        exact W.zret (v := nI 0) hx hb hr (by decide) (fun t ht hW => ⟨nI 0, rfl, by first | exact Or.inl ⟨rfl, by simp [nbb, *]⟩ | exact Or.inr ⟨rfl, by simp [nbb, *]⟩, ht⟩) (fun _ h9 => by cases h9) dX5_isNewBlock_43
      · skip
        refine lv_iconst (v := nI 1) hx hb dX5_isNewBlock_38 (by decide) ?_
        refine lv_goto (tgt := 43) hx hb dX5_isNewBlock_39 (by decide) ?_
        exact W.zret (v := nI 1) hx hb hr (by decide) (fun t ht hW => ⟨nI 1, rfl, by first | exact Or.inl ⟨rfl, by simp [nbb, *]⟩ | exact Or.inr ⟨rfl, by simp [nbb, *]⟩, ht⟩) (fun _ h9 => by cases h9) dX5_isNewBlock_43
set_option maxHeartbeats 1000000 in
set_option maxRecDepth 100000 in
theorem mt_X5_blocks (l : Launch) (G : gG) (h : Nat → Nat) (u : oS) (lt : Int64) (sj : Nat → Int64) (nl : Nat) (hnl : u.1 4 = nI nl) (hnl120 : nl ≤ 120) : Met l yX5_blocks wsX5_blocks ({ frames := 1, cells := 0, slots := 0, locals := 21 }) (preR G (mw G h u lt sj) [.ref (h 0)]) (vp_Si (fun r : Int32 => r = nI (cnt (nbb (u.2 6) (u.2 7)) nl))) 0 0 (fun _ => False) := by
  refine Met.ofW (cc := cX5_blocks) (maxL := 3) (ret := (some .int)) (by decide) rfl ?_
  intro p e s m args below meth c s₁ B hml hv
  obtain ⟨ha, hP, hK, hN⟩ := hv
  subst ha
  have hx := B.exec
  have hb := B.bytes
  have hr := B.returns
  have hts := atoms_spec (ws := wsX5_blocks) B.pre
  have hown : s.vm.findClass RX5 = some m.cls := findClass_of_methodNamed B.named
  have hlocks := B.notSynchronized
  have hiX5 : ∀ w ∈ wsX50, w ∈ wsX5_blocks := fun w h9 => List.mem_cons_of_mem _ (List.mem_append_right _ (h9))
  have k175 := hts (.fieldLink RX5 175 "WovenHistoryModel" "lines" "I") (List.mem_of_getElem? (i := 1) rfl)
  have hl := lv_entry ([.ref (h 0)]) (n := 3) (Nat.le_of_ble_eq_true rfl)
  rw [lg_entry_eq]
  generalize (lg_sl ([.ref (h 0)]) ++ List.replicate (3 - (lg_sl ([.ref (h 0)])).length) Slot.unset).toArray = ls at hl ⊢
  have hl : lv_has ls 3 [(0, .ref (h 0))] := hl
  refine lv_iconst (v := nI 0) hx hb dX5_blocks_0 (by decide) ?_
  refine lv_istore_n (lv' := [(1, .int (nI 0)), (0, .ref (h 0))]) hx hb dX5_blocks_1 rfl hl (by decide) rfl (fun ls hl => ?_)
  refine lv_iconst (v := nI 0) hx hb dX5_blocks_2 (by decide) ?_
  refine lv_istore_n (lv' := [(2, .int (nI 0)), (1, .int (nI 0)), (0, .ref (h 0))]) hx hb dX5_blocks_3 rfl hl (by decide) rfl (fun ls hl => ?_)
  have LP4 : ∀ (n4m : Nat), ∀ (k : Nat) (j : Nat) (hk : k ≤ nl) (hj : j = cnt (nbb (u.2 6) (u.2 7)) k) (hj2 : j ≤ k), (nl - k < n4m) → ∀ (ls : Array Slot), lv_has ls 3 [(0, .ref (h 0)), (1, .int (nI j)), (2, .int (nI k))] → W p l e (headSpec wsX5_blocks ({ frames := 1, cells := 0, slots := 0, locals := 21 })).room s m ([.ref (h 0)] : List Value).toArray below meth c s.heap [] 0 0 (MQ below (vp_Si (fun r : Int32 => r = nI (cnt (nbb (u.2 6) (u.2 7)) nl))) ([.ref (h 0)] : List Value).toArray s 0 0 (fun _ => False)) (F0 m 4 ls []) := by
    intro n4m
    induction n4m with
    | zero => intro k j hk hj hj2 hmu ls hl; exact absurd hmu (Nat.not_lt_zero _)
    | succ n4m ih4 =>
      intro k j hk hj hj2 hmu ls hl
      refine lv_iload_n hx hb dX5_blocks_4 rfl (lv_at hl 2 rfl) ?_
      refine lv_aload_n hx hb dX5_blocks_5 rfl (lv_at hl 0 rfl) ?_
      refine va_get (D := gD G) (ci := 5) (v := .int (u.1 4)) (C := RX5) (T := TX5) (N := 38) hx hb hts hiX5 hown hK hP 0 rfl rfl 4 (by decide) k175 (fun _ h9 => h9) rfl dX5_blocks_6 ?_
      refine topE hnl ?_
      refine lv_icmp_ge (tgt := 34) hx hb dX5_blocks_9 (by decide) (fun c9 => ?_) (fun c9 => ?_)
      · skip
        have n9 : nl ≤ k := (nI_leI (a := nl) (b := k) (by omega) (by omega)).mp c9
        refine lv_iload_n hx hb dX5_blocks_34 rfl (lv_at hl 1 rfl) ?_
        exact W.iret (v := nI j) hx hb hr (fun t ht hW => ⟨nI j, rfl, by rw [hj, show k = nl by omega], ht⟩) (fun _ h9 => by cases h9) dX5_blocks_35
      · skip
        have n9 : ¬ (nl ≤ k) := fun q9 => c9 ((nI_leI (a := nl) (b := k) (by omega) (by omega)).mpr q9)
        refine lv_iload_n hx hb dX5_blocks_12 rfl (lv_at hl 1 rfl) ?_
        refine lv_aload_n hx hb dX5_blocks_13 rfl (lv_at hl 0 rfl) ?_
        refine lv_iload_n hx hb dX5_blocks_14 rfl (lv_at hl 2 rfl) ?_
        refine cRi (w := mw G h u lt sj) (As := [.int (nI k)]) (rest := [.int (nI j)]) ⟨hx, hb, hml, hown, hts⟩ (mt_X5_isNewBlock l G h u lt sj k (by first | assumption | omega)) (cwV 1 hts gX5_blocks_X5_isNewBlock rfl rfl rfl ⟨rfl, hd_X5_isNewBlock⟩ ⟨Nat.le_of_ble_eq_true rfl, Nat.le_of_ble_eq_true rfl⟩) hK hN hP 0 5 rfl rfl rfl hl.1 rfl (Nat.le_of_ble_eq_true rfl) ⟨Nat.zero_le _, Nat.zero_le _⟩ dX5_blocks_15 (fun r15 hw15 => ?_)
        rcases hw15 with ⟨rfl, hy15⟩ | ⟨rfl, hn15⟩
        · skip
          refine lv_if_eq (tgt := 25) hx hb dX5_blocks_18 (by decide) (fun c9 => absurd c9 (by decide)) (fun _ => ?_)
          refine lv_iconst (v := nI 1) hx hb dX5_blocks_21 (by decide) ?_
          refine lv_goto (tgt := 26) hx hb dX5_blocks_22 (by decide) ?_
          refine lv_iadd hx hb dX5_blocks_26 ?_
          refine topE (y := nI (j + 1)) (nI_add j 1) ?_
          refine lv_istore_n (lv' := [(1, .int (nI (j + 1))), (0, .ref (h 0)), (2, .int (nI k))]) hx hb dX5_blocks_27 rfl hl (by decide) rfl (fun ls hl => ?_)
          refine lv_iinc (v := nI (k + 1)) (lv' := [(2, .int (nI (k + 1))), (1, .int (nI (j + 1))), (0, .ref (h 0))]) hx hb dX5_blocks_28 hl (k := 2) rfl (nI_1 k) (by decide) rfl (fun ls hl => ?_)
          refine lv_goto (tgt := 4) hx hb dX5_blocks_31 (by decide) ?_
          exact ih4 (k + 1) (j + 1) (by first | assumption | omega) (by first | rfl | omega | (rw [cnt_t (by assumption)]; omega) | (rw [cnt_f (by assumption)]; omega)) (by first | assumption | omega) (by omega) ls (lv_sub hl [2, 1, 0] rfl)
        · skip
          refine lv_if_eq (tgt := 25) hx hb dX5_blocks_18 (by decide) (fun _ => ?_) (fun c9 => absurd (by decide) c9)
          refine lv_iconst (v := nI 0) hx hb dX5_blocks_25 (by decide) ?_
          refine lv_iadd hx hb dX5_blocks_26 ?_
          refine topE (y := nI (j + 0)) (nI_add j 0) ?_
          refine lv_istore_n (lv' := [(1, .int (nI (j + 0))), (0, .ref (h 0)), (2, .int (nI k))]) hx hb dX5_blocks_27 rfl hl (by decide) rfl (fun ls hl => ?_)
          refine lv_iinc (v := nI (k + 1)) (lv' := [(2, .int (nI (k + 1))), (1, .int (nI (j + 0))), (0, .ref (h 0))]) hx hb dX5_blocks_28 hl (k := 2) rfl (nI_1 k) (by decide) rfl (fun ls hl => ?_)
          refine lv_goto (tgt := 4) hx hb dX5_blocks_31 (by decide) ?_
          exact ih4 (k + 1) (j + 0) (by first | assumption | omega) (by first | rfl | omega | (rw [cnt_t (by assumption)]; omega) | (rw [cnt_f (by assumption)]; omega)) (by first | assumption | omega) (by omega) ls (lv_sub hl [2, 1, 0] rfl)
  exact LP4 (nl - 0 + 1) 0 0 (by first | assumption | omega) (by first | rfl | omega | (rw [cnt_t (by assumption)]; omega) | (rw [cnt_f (by assumption)]; omega)) (by first | assumption | omega) (Nat.lt_succ_self _) ls (lv_sub hl [2, 1, 0] rfl)
set_option maxHeartbeats 1000000 in
set_option maxRecDepth 100000 in
theorem mt_X5_nest (l : Launch) (G : gG) (h : Nat → Nat) (u : oS) (lt : Int64) (sj : Nat → Int64) (nl : Nat) (hnl : u.1 4 = nI nl) (hnl120 : nl ≤ 120) : Met l yX5_nest wsX5_nest ({ frames := 1, cells := 0, slots := 0, locals := 22 }) (preR G (mw G h u lt sj) [.ref (h 0)]) (vp_Si (fun r : Int32 => True)) 0 0 (fun _ => False) := by
  refine Met.ofW (cc := cX5_nest) (maxL := 4) (ret := (some .int)) (by decide) rfl ?_
  intro p e s m args below meth c s₁ B hml hv
  obtain ⟨ha, hP, hK, hN⟩ := hv
  subst ha
  have hx := B.exec
  have hb := B.bytes
  have hr := B.returns
  have hts := atoms_spec (ws := wsX5_nest) B.pre
  have hown : s.vm.findClass RX5 = some m.cls := findClass_of_methodNamed B.named
  have hlocks := B.notSynchronized
  have hiX5 : ∀ w ∈ wsX50, w ∈ wsX5_nest := fun w h9 => List.mem_cons_of_mem _ (List.mem_append_right _ (h9))
  have k175 := hts (.fieldLink RX5 175 "WovenHistoryModel" "lines" "I") (List.mem_of_getElem? (i := 1) rfl)
  have k25 := hts (.fieldLink RX5 25 "WovenHistoryModel" "took" "[I") (List.mem_of_getElem? (i := 2) rfl)
  have hl := lv_entry ([.ref (h 0)]) (n := 4) (Nat.le_of_ble_eq_true rfl)
  rw [lg_entry_eq]
  generalize (lg_sl ([.ref (h 0)]) ++ List.replicate (4 - (lg_sl ([.ref (h 0)])).length) Slot.unset).toArray = ls at hl ⊢
  have hl : lv_has ls 4 [(0, .ref (h 0))] := hl
  refine lv_iconst (v := nI 0) hx hb dX5_nest_0 (by decide) ?_
  refine lv_istore_n (lv' := [(1, .int (nI 0)), (0, .ref (h 0))]) hx hb dX5_nest_1 rfl hl (by decide) rfl (fun ls hl => ?_)
  refine lv_iconst (v := nI 0) hx hb dX5_nest_2 (by decide) ?_
  refine lv_istore_n (lv' := [(2, .int (nI 0)), (1, .int (nI 0)), (0, .ref (h 0))]) hx hb dX5_nest_3 rfl hl (by decide) rfl (fun ls hl => ?_)
  have LP4 : ∀ (n4m : Nat), ∀ (k : Nat) (x : Int32) (hk : k ≤ nl), (nl - k < n4m) → ∀ (ls : Array Slot), lv_has ls 4 [(0, .ref (h 0)), (1, .int x), (2, .int (nI k))] → W p l e (headSpec wsX5_nest ({ frames := 1, cells := 0, slots := 0, locals := 22 })).room s m ([.ref (h 0)] : List Value).toArray below meth c s.heap [] 0 0 (MQ below (vp_Si (fun r : Int32 => True)) ([.ref (h 0)] : List Value).toArray s 0 0 (fun _ => False)) (F0 m 4 ls []) := by
    intro n4m
    induction n4m with
    | zero => intro k x hk hmu ls hl; exact absurd hmu (Nat.not_lt_zero _)
    | succ n4m ih4 =>
      intro k x hk hmu ls hl
      refine lv_iload_n hx hb dX5_nest_4 rfl (lv_at hl 2 rfl) ?_
      refine lv_aload_n hx hb dX5_nest_5 rfl (lv_at hl 0 rfl) ?_
      refine va_get (D := gD G) (ci := 5) (v := .int (u.1 4)) (C := RX5) (T := TX5) (N := 38) hx hb hts hiX5 hown hK hP 0 rfl rfl 4 (by decide) k175 (fun _ h9 => h9) rfl dX5_nest_6 ?_
      refine topE hnl ?_
      refine lv_icmp_ge (tgt := 41) hx hb dX5_nest_9 (by decide) (fun c9 => ?_) (fun c9 => ?_)
      · skip
        have n9 : nl ≤ k := (nI_leI (a := nl) (b := k) (by omega) (by omega)).mp c9
        refine lv_iload_n hx hb dX5_nest_41 rfl (lv_at hl 1 rfl) ?_
        exact W.iret (v := x) hx hb hr (fun t ht hW => ⟨x, rfl, by first | rfl | trivial | omega | assumption, ht⟩) (fun _ h9 => by cases h9) dX5_nest_42
      · skip
        have n9 : ¬ (nl ≤ k) := fun q9 => c9 ((nI_leI (a := nl) (b := k) (by omega) (by omega)).mpr q9)
        refine lv_iconst (v := nI 1) hx hb dX5_nest_12 (by decide) ?_
        refine lv_aload_n hx hb dX5_nest_13 rfl (lv_at hl 0 rfl) ?_
        refine va_get (D := gD G) (ci := 5) (v := .ref (h 7)) (C := RX5) (T := TX5) (N := 38) hx hb hts hiX5 hown hK hP 0 rfl rfl 7 (by decide) k25 (fun _ h9 => h9) rfl dX5_nest_14 ?_
        refine lv_iload_n hx hb dX5_nest_17 rfl (lv_at hl 2 rfl) ?_
        refine ialdN (f := u.2 7) (n := 120) (k := k) hx hb hK hP 6 rfl rfl (by omega) dX5_nest_18 ?_
        refine cSi (As := [.int ((u.2 7) k)]) (rest := [.int (nI 1)]) ⟨hx, hb, hml, hown, hts⟩ (mt_X5_bits l ((u.2 7) k)) (va_cwS 1 hts gX5_nest_X5_bits rfl rfl rfl hd_X5_bits ⟨Nat.le_of_ble_eq_true rfl, Nat.le_of_ble_eq_true rfl⟩) rfl hl.1 rfl (Nat.le_of_ble_eq_true rfl) ⟨Nat.zero_le _, Nat.zero_le _⟩ dX5_nest_19 (fun r19 hw19 => ?_)
        refine lv_iadd hx hb dX5_nest_22 ?_
        refine lv_istore_n (lv' := [(3, .int ((nI 1) + r19)), (0, .ref (h 0)), (1, .int x), (2, .int (nI k))]) hx hb dX5_nest_23 rfl hl (by decide) rfl (fun ls hl => ?_)
        refine lv_iload_n hx hb dX5_nest_24 rfl (lv_at hl 0 rfl) ?_
        refine lv_iload_n hx hb dX5_nest_25 rfl (lv_at hl 2 rfl) ?_
        refine lv_icmp_le (tgt := 33) hx hb dX5_nest_26 (by decide) (fun c26 => ?_) (fun c26 => ?_)
        · skip
          refine lv_iload_n hx hb dX5_nest_33 rfl (lv_at hl 2 rfl) ?_
          refine lv_istore_n (lv' := [(1, .int x), (3, .int ((nI 1) + r19)), (0, .ref (h 0)), (2, .int (nI k))]) hx hb dX5_nest_34 rfl hl (by decide) rfl (fun ls hl => ?_)
          refine lv_iinc (v := nI (k + 1)) (lv' := [(2, .int (nI (k + 1))), (1, .int x), (3, .int ((nI 1) + r19)), (0, .ref (h 0))]) hx hb dX5_nest_35 hl (k := 3) rfl (nI_1 k) (by decide) rfl (fun ls hl => ?_)
          refine lv_goto (tgt := 4) hx hb dX5_nest_38 (by decide) ?_
          exact ih4 (k + 1) x (by first | assumption | omega) (by omega) ls (lv_sub hl [3, 1, 0] rfl)
        · skip
          refine lv_iload_n hx hb dX5_nest_29 rfl (lv_at hl 0 rfl) ?_
          refine lv_goto (tgt := 34) hx hb dX5_nest_30 (by decide) ?_
          refine lv_istore_n (lv' := [(1, .int ((nI 1) + r19)), (3, .int ((nI 1) + r19)), (0, .ref (h 0)), (2, .int (nI k))]) hx hb dX5_nest_34 rfl hl (by decide) rfl (fun ls hl => ?_)
          refine lv_iinc (v := nI (k + 1)) (lv' := [(2, .int (nI (k + 1))), (1, .int ((nI 1) + r19)), (3, .int ((nI 1) + r19)), (0, .ref (h 0))]) hx hb dX5_nest_35 hl (k := 3) rfl (nI_1 k) (by decide) rfl (fun ls hl => ?_)
          refine lv_goto (tgt := 4) hx hb dX5_nest_38 (by decide) ?_
          exact ih4 (k + 1) ((nI 1) + r19) (by first | assumption | omega) (by omega) ls (lv_sub hl [3, 1, 0] rfl)
  exact LP4 (nl - 0 + 1) 0 (nI 0) (by first | assumption | omega) (Nat.lt_succ_self _) ls (lv_sub hl [2, 1, 0] rfl)
set_option maxHeartbeats 1000000 in
set_option maxRecDepth 100000 in
theorem mt_X5_broughtBy (l : Launch) (G : gG) (h : Nat → Nat) (u : oS) (lt : Int64) (sj : Nat → Int64) (nl : Nat) (w : Int32) (hnl : u.1 4 = nI nl) (hnl120 : nl ≤ 120) : Met l yX5_broughtBy wsX5_broughtBy ({ frames := 0, cells := 0, slots := 0, locals := 0 }) (preR G (mw G h u lt sj) [.ref (h 0), .int w]) (vp_Si (fun r : Int32 => r = nI (cnt (fun i => decide (u.2 6 i = w)) nl))) 0 0 (fun _ => False) := by
  refine Met.ofW (cc := cX5_broughtBy) (maxL := 4) (ret := (some .int)) (by decide) rfl ?_
  intro p e s m args below meth c s₁ B hml hv
  obtain ⟨ha, hP, hK, hN⟩ := hv
  subst ha
  have hx := B.exec
  have hb := B.bytes
  have hr := B.returns
  have hts := atoms_spec (ws := wsX5_broughtBy) B.pre
  have hown : s.vm.findClass RX5 = some m.cls := findClass_of_methodNamed B.named
  have hlocks := B.notSynchronized
  have hiX5 : ∀ w ∈ wsX50, w ∈ wsX5_broughtBy := fun w h9 => List.mem_cons_of_mem _ (List.mem_append_right _ (h9))
  have k175 := hts (.fieldLink RX5 175 "WovenHistoryModel" "lines" "I") (List.mem_of_getElem? (i := 1) rfl)
  have k22 := hts (.fieldLink RX5 22 "WovenHistoryModel" "brought" "[I") (List.mem_of_getElem? (i := 2) rfl)
  have hl := lv_entry ([.ref (h 0), .int w]) (n := 4) (Nat.le_of_ble_eq_true rfl)
  rw [lg_entry_eq]
  generalize (lg_sl ([.ref (h 0), .int w]) ++ List.replicate (4 - (lg_sl ([.ref (h 0), .int w])).length) Slot.unset).toArray = ls at hl ⊢
  have hl : lv_has ls 4 [(0, .ref (h 0)), (1, .int w)] := hl
  refine lv_iconst (v := nI 0) hx hb dX5_broughtBy_0 (by decide) ?_
  refine lv_istore_n (lv' := [(2, .int (nI 0)), (0, .ref (h 0)), (1, .int w)]) hx hb dX5_broughtBy_1 rfl hl (by decide) rfl (fun ls hl => ?_)
  refine lv_iconst (v := nI 0) hx hb dX5_broughtBy_2 (by decide) ?_
  refine lv_istore_n (lv' := [(3, .int (nI 0)), (2, .int (nI 0)), (0, .ref (h 0)), (1, .int w)]) hx hb dX5_broughtBy_3 rfl hl (by decide) rfl (fun ls hl => ?_)
  have LP4 : ∀ (n4m : Nat), ∀ (k : Nat) (j : Nat) (hk : k ≤ nl) (hj : j = cnt (fun i => decide (u.2 6 i = w)) k) (hj2 : j ≤ k), (nl - k < n4m) → ∀ (ls : Array Slot), lv_has ls 4 [(0, .ref (h 0)), (1, .int w), (2, .int (nI j)), (3, .int (nI k))] → W p l e (headSpec wsX5_broughtBy ({ frames := 0, cells := 0, slots := 0, locals := 0 })).room s m ([.ref (h 0), .int w] : List Value).toArray below meth c s.heap [] 0 0 (MQ below (vp_Si (fun r : Int32 => r = nI (cnt (fun i => decide (u.2 6 i = w)) nl))) ([.ref (h 0), .int w] : List Value).toArray s 0 0 (fun _ => False)) (F0 m 4 ls []) := by
    intro n4m
    induction n4m with
    | zero => intro k j hk hj hj2 hmu ls hl; exact absurd hmu (Nat.not_lt_zero _)
    | succ n4m ih4 =>
      intro k j hk hj hj2 hmu ls hl
      refine lv_iload_n hx hb dX5_broughtBy_4 rfl (lv_at hl 3 rfl) ?_
      refine lv_aload_n hx hb dX5_broughtBy_5 rfl (lv_at hl 0 rfl) ?_
      refine va_get (D := gD G) (ci := 5) (v := .int (u.1 4)) (C := RX5) (T := TX5) (N := 38) hx hb hts hiX5 hown hK hP 0 rfl rfl 4 (by decide) k175 (fun _ h9 => h9) rfl dX5_broughtBy_6 ?_
      refine topE hnl ?_
      refine lv_icmp_ge (tgt := 36) hx hb dX5_broughtBy_9 (by decide) (fun c9 => ?_) (fun c9 => ?_)
      · skip
        have n9 : nl ≤ k := (nI_leI (a := nl) (b := k) (by omega) (by omega)).mp c9
        refine lv_iload_n hx hb dX5_broughtBy_36 rfl (lv_at hl 2 rfl) ?_
        exact W.iret (v := nI j) hx hb hr (fun t ht hW => ⟨nI j, rfl, by rw [hj, show k = nl by omega], ht⟩) (fun _ h9 => by cases h9) dX5_broughtBy_37
      · skip
        have n9 : ¬ (nl ≤ k) := fun q9 => c9 ((nI_leI (a := nl) (b := k) (by omega) (by omega)).mpr q9)
        refine lv_iload_n hx hb dX5_broughtBy_12 rfl (lv_at hl 2 rfl) ?_
        refine lv_aload_n hx hb dX5_broughtBy_13 rfl (lv_at hl 0 rfl) ?_
        refine va_get (D := gD G) (ci := 5) (v := .ref (h 6)) (C := RX5) (T := TX5) (N := 38) hx hb hts hiX5 hown hK hP 0 rfl rfl 6 (by decide) k22 (fun _ h9 => h9) rfl dX5_broughtBy_14 ?_
        refine lv_iload_n hx hb dX5_broughtBy_17 rfl (lv_at hl 3 rfl) ?_
        refine ialdN (f := u.2 6) (n := 120) (k := k) hx hb hK hP 5 rfl rfl (by omega) dX5_broughtBy_18 ?_
        refine lv_iload_n hx hb dX5_broughtBy_19 rfl (lv_at hl 1 rfl) ?_
        refine lv_icmp_ne (tgt := 27) hx hb dX5_broughtBy_20 (by decide) (fun c20 => ?_) (fun c20 => ?_)
        · skip
          refine lv_iconst (v := nI 0) hx hb dX5_broughtBy_27 (by decide) ?_
          refine lv_iadd hx hb dX5_broughtBy_28 ?_
          refine topE (y := nI (j + 0)) (nI_add j 0) ?_
          refine lv_istore_n (lv' := [(2, .int (nI (j + 0))), (0, .ref (h 0)), (1, .int w), (3, .int (nI k))]) hx hb dX5_broughtBy_29 rfl hl (by decide) rfl (fun ls hl => ?_)
          refine lv_iinc (v := nI (k + 1)) (lv' := [(3, .int (nI (k + 1))), (2, .int (nI (j + 0))), (0, .ref (h 0)), (1, .int w)]) hx hb dX5_broughtBy_30 hl (k := 3) rfl (nI_1 k) (by decide) rfl (fun ls hl => ?_)
          refine lv_goto (tgt := 4) hx hb dX5_broughtBy_33 (by decide) ?_
          exact ih4 (k + 1) (j + 0) (by first | assumption | omega) (by first | rfl | omega | (rw [cnt_t (decide_eq_true (by assumption))]; omega) | (rw [cnt_f (decide_eq_false (by assumption))]; omega)) (by first | assumption | omega) (by omega) ls (lv_sub hl [2, 3, 1, 0] rfl)
        · skip
          refine lv_iconst (v := nI 1) hx hb dX5_broughtBy_23 (by decide) ?_
          refine lv_goto (tgt := 28) hx hb dX5_broughtBy_24 (by decide) ?_
          refine lv_iadd hx hb dX5_broughtBy_28 ?_
          refine topE (y := nI (j + 1)) (nI_add j 1) ?_
          refine lv_istore_n (lv' := [(2, .int (nI (j + 1))), (0, .ref (h 0)), (1, .int w), (3, .int (nI k))]) hx hb dX5_broughtBy_29 rfl hl (by decide) rfl (fun ls hl => ?_)
          refine lv_iinc (v := nI (k + 1)) (lv' := [(3, .int (nI (k + 1))), (2, .int (nI (j + 1))), (0, .ref (h 0)), (1, .int w)]) hx hb dX5_broughtBy_30 hl (k := 3) rfl (nI_1 k) (by decide) rfl (fun ls hl => ?_)
          refine lv_goto (tgt := 4) hx hb dX5_broughtBy_33 (by decide) ?_
          exact ih4 (k + 1) (j + 1) (by first | assumption | omega) (by first | rfl | omega | (rw [cnt_t (decide_eq_true (by assumption))]; omega) | (rw [cnt_f (decide_eq_false (by assumption))]; omega)) (by first | assumption | omega) (by omega) ls (lv_sub hl [2, 3, 1, 0] rfl)
  exact LP4 (nl - 0 + 1) 0 0 (by first | assumption | omega) (by first | rfl | omega | (rw [cnt_t (decide_eq_true (by assumption))]; omega) | (rw [cnt_f (decide_eq_false (by assumption))]; omega)) (by first | assumption | omega) (Nat.lt_succ_self _) ls (lv_sub hl [2, 3, 1, 0] rfl)
set_option maxHeartbeats 1000000 in
set_option maxRecDepth 100000 in
theorem mt_X5_tookBy (l : Launch) (G : gG) (h : Nat → Nat) (u : oS) (lt : Int64) (sj : Nat → Int64) (nl : Nat) (w : Int32) (hnl : u.1 4 = nI nl) (hnl120 : nl ≤ 120) : Met l yX5_tookBy wsX5_tookBy ({ frames := 1, cells := 0, slots := 0, locals := 21 }) (preR G (mw G h u lt sj) [.ref (h 0), .int w]) (vp_Si (fun r : Int32 => r = nI (cnt (fun i => decide ((u.2 7 i >>> (w &&& 31)) &&& 1 = 1)) nl))) 0 0 (fun _ => False) := by
  refine Met.ofW (cc := cX5_tookBy) (maxL := 4) (ret := (some .int)) (by decide) rfl ?_
  intro p e s m args below meth c s₁ B hml hv
  obtain ⟨ha, hP, hK, hN⟩ := hv
  subst ha
  have hx := B.exec
  have hb := B.bytes
  have hr := B.returns
  have hts := atoms_spec (ws := wsX5_tookBy) B.pre
  have hown : s.vm.findClass RX5 = some m.cls := findClass_of_methodNamed B.named
  have hlocks := B.notSynchronized
  have hiX5 : ∀ w ∈ wsX50, w ∈ wsX5_tookBy := fun w h9 => List.mem_cons_of_mem _ (List.mem_append_right _ (h9))
  have k175 := hts (.fieldLink RX5 175 "WovenHistoryModel" "lines" "I") (List.mem_of_getElem? (i := 1) rfl)
  have k25 := hts (.fieldLink RX5 25 "WovenHistoryModel" "took" "[I") (List.mem_of_getElem? (i := 2) rfl)
  have hl := lv_entry ([.ref (h 0), .int w]) (n := 4) (Nat.le_of_ble_eq_true rfl)
  rw [lg_entry_eq]
  generalize (lg_sl ([.ref (h 0), .int w]) ++ List.replicate (4 - (lg_sl ([.ref (h 0), .int w])).length) Slot.unset).toArray = ls at hl ⊢
  have hl : lv_has ls 4 [(0, .ref (h 0)), (1, .int w)] := hl
  refine lv_iconst (v := nI 0) hx hb dX5_tookBy_0 (by decide) ?_
  refine lv_istore_n (lv' := [(2, .int (nI 0)), (0, .ref (h 0)), (1, .int w)]) hx hb dX5_tookBy_1 rfl hl (by decide) rfl (fun ls hl => ?_)
  refine lv_iconst (v := nI 0) hx hb dX5_tookBy_2 (by decide) ?_
  refine lv_istore_n (lv' := [(3, .int (nI 0)), (2, .int (nI 0)), (0, .ref (h 0)), (1, .int w)]) hx hb dX5_tookBy_3 rfl hl (by decide) rfl (fun ls hl => ?_)
  have LP4 : ∀ (n4m : Nat), ∀ (k : Nat) (j : Nat) (hk : k ≤ nl) (hj : j = cnt (fun i => decide ((u.2 7 i >>> (w &&& 31)) &&& 1 = 1)) k) (hj2 : j ≤ k), (nl - k < n4m) → ∀ (ls : Array Slot), lv_has ls 4 [(0, .ref (h 0)), (1, .int w), (2, .int (nI j)), (3, .int (nI k))] → W p l e (headSpec wsX5_tookBy ({ frames := 1, cells := 0, slots := 0, locals := 21 })).room s m ([.ref (h 0), .int w] : List Value).toArray below meth c s.heap [] 0 0 (MQ below (vp_Si (fun r : Int32 => r = nI (cnt (fun i => decide ((u.2 7 i >>> (w &&& 31)) &&& 1 = 1)) nl))) ([.ref (h 0), .int w] : List Value).toArray s 0 0 (fun _ => False)) (F0 m 4 ls []) := by
    intro n4m
    induction n4m with
    | zero => intro k j hk hj hj2 hmu ls hl; exact absurd hmu (Nat.not_lt_zero _)
    | succ n4m ih4 =>
      intro k j hk hj hj2 hmu ls hl
      refine lv_iload_n hx hb dX5_tookBy_4 rfl (lv_at hl 3 rfl) ?_
      refine lv_aload_n hx hb dX5_tookBy_5 rfl (lv_at hl 0 rfl) ?_
      refine va_get (D := gD G) (ci := 5) (v := .int (u.1 4)) (C := RX5) (T := TX5) (N := 38) hx hb hts hiX5 hown hK hP 0 rfl rfl 4 (by decide) k175 (fun _ h9 => h9) rfl dX5_tookBy_6 ?_
      refine topE hnl ?_
      refine lv_icmp_ge (tgt := 39) hx hb dX5_tookBy_9 (by decide) (fun c9 => ?_) (fun c9 => ?_)
      · skip
        have n9 : nl ≤ k := (nI_leI (a := nl) (b := k) (by omega) (by omega)).mp c9
        refine lv_iload_n hx hb dX5_tookBy_39 rfl (lv_at hl 2 rfl) ?_
        exact W.iret (v := nI j) hx hb hr (fun t ht hW => ⟨nI j, rfl, by rw [hj, show k = nl by omega], ht⟩) (fun _ h9 => by cases h9) dX5_tookBy_40
      · skip
        have n9 : ¬ (nl ≤ k) := fun q9 => c9 ((nI_leI (a := nl) (b := k) (by omega) (by omega)).mpr q9)
        refine lv_iload_n hx hb dX5_tookBy_12 rfl (lv_at hl 2 rfl) ?_
        refine lv_aload_n hx hb dX5_tookBy_13 rfl (lv_at hl 0 rfl) ?_
        refine va_get (D := gD G) (ci := 5) (v := .ref (h 7)) (C := RX5) (T := TX5) (N := 38) hx hb hts hiX5 hown hK hP 0 rfl rfl 7 (by decide) k25 (fun _ h9 => h9) rfl dX5_tookBy_14 ?_
        refine lv_iload_n hx hb dX5_tookBy_17 rfl (lv_at hl 3 rfl) ?_
        refine ialdN (f := u.2 7) (n := 120) (k := k) hx hb hK hP 6 rfl rfl (by omega) dX5_tookBy_18 ?_
        refine lv_iload_n hx hb dX5_tookBy_19 rfl (lv_at hl 1 rfl) ?_
        refine cSi (As := [.int ((u.2 7) k), .int w]) (rest := [.int (nI j)]) ⟨hx, hb, hml, hown, hts⟩ (mt_X5_has l ((u.2 7) k) w) (va_cwS 2 hts gX5_tookBy_X5_has rfl rfl rfl hd_X5_has ⟨Nat.le_of_ble_eq_true rfl, Nat.le_of_ble_eq_true rfl⟩) rfl hl.1 rfl (Nat.le_of_ble_eq_true rfl) ⟨Nat.zero_le _, Nat.zero_le _⟩ dX5_tookBy_20 (fun r20 hw20 => ?_)
        rcases hw20 with ⟨rfl, hy20⟩ | ⟨rfl, hn20⟩
        · skip
          refine lv_if_eq (tgt := 30) hx hb dX5_tookBy_23 (by decide) (fun c9 => absurd c9 (by decide)) (fun _ => ?_)
          refine lv_iconst (v := nI 1) hx hb dX5_tookBy_26 (by decide) ?_
          refine lv_goto (tgt := 31) hx hb dX5_tookBy_27 (by decide) ?_
          refine lv_iadd hx hb dX5_tookBy_31 ?_
          refine topE (y := nI (j + 1)) (nI_add j 1) ?_
          refine lv_istore_n (lv' := [(2, .int (nI (j + 1))), (0, .ref (h 0)), (1, .int w), (3, .int (nI k))]) hx hb dX5_tookBy_32 rfl hl (by decide) rfl (fun ls hl => ?_)
          refine lv_iinc (v := nI (k + 1)) (lv' := [(3, .int (nI (k + 1))), (2, .int (nI (j + 1))), (0, .ref (h 0)), (1, .int w)]) hx hb dX5_tookBy_33 hl (k := 3) rfl (nI_1 k) (by decide) rfl (fun ls hl => ?_)
          refine lv_goto (tgt := 4) hx hb dX5_tookBy_36 (by decide) ?_
          exact ih4 (k + 1) (j + 1) (by first | assumption | omega) (by first | rfl | omega | (rw [cnt_t (decide_eq_true (by assumption))]; omega) | (rw [cnt_f (decide_eq_false (by assumption))]; omega)) (by first | assumption | omega) (by omega) ls (lv_sub hl [2, 3, 1, 0] rfl)
        · skip
          refine lv_if_eq (tgt := 30) hx hb dX5_tookBy_23 (by decide) (fun _ => ?_) (fun c9 => absurd (by decide) c9)
          refine lv_iconst (v := nI 0) hx hb dX5_tookBy_30 (by decide) ?_
          refine lv_iadd hx hb dX5_tookBy_31 ?_
          refine topE (y := nI (j + 0)) (nI_add j 0) ?_
          refine lv_istore_n (lv' := [(2, .int (nI (j + 0))), (0, .ref (h 0)), (1, .int w), (3, .int (nI k))]) hx hb dX5_tookBy_32 rfl hl (by decide) rfl (fun ls hl => ?_)
          refine lv_iinc (v := nI (k + 1)) (lv' := [(3, .int (nI (k + 1))), (2, .int (nI (j + 0))), (0, .ref (h 0)), (1, .int w)]) hx hb dX5_tookBy_33 hl (k := 3) rfl (nI_1 k) (by decide) rfl (fun ls hl => ?_)
          refine lv_goto (tgt := 4) hx hb dX5_tookBy_36 (by decide) ?_
          exact ih4 (k + 1) (j + 0) (by first | assumption | omega) (by first | rfl | omega | (rw [cnt_t (decide_eq_true (by assumption))]; omega) | (rw [cnt_f (decide_eq_false (by assumption))]; omega)) (by first | assumption | omega) (by omega) ls (lv_sub hl [2, 3, 1, 0] rfl)
  exact LP4 (nl - 0 + 1) 0 0 (by first | assumption | omega) (by first | rfl | omega | (rw [cnt_t (decide_eq_true (by assumption))]; omega) | (rw [cnt_f (decide_eq_false (by assumption))]; omega)) (by first | assumption | omega) (Nat.lt_succ_self _) ls (lv_sub hl [2, 3, 1, 0] rfl)
set_option maxHeartbeats 1000000 in
set_option maxRecDepth 100000 in
theorem mt_X5_sheetsThere (l : Launch) (G : gG) (h : Nat → Nat) (u : oS) (lt : Int64) (sj : Nat → Int64) : Met l yX5_sheetsThere wsX5_sheetsThere ({ frames := 0, cells := 0, slots := 0, locals := 0 }) (preR G (mw G h u lt sj) [.ref (h 0)]) (vp_Si (fun r : Int32 => r = nI (cnt (fun i => decide (¬ u.2 32 i = 0)) 4))) 0 0 (fun _ => False) := by
  refine Met.ofW (cc := cX5_sheetsThere) (maxL := 3) (ret := (some .int)) (by decide) rfl ?_
  intro p e s m args below meth c s₁ B hml hv
  obtain ⟨ha, hP, hK, hN⟩ := hv
  subst ha
  have hx := B.exec
  have hb := B.bytes
  have hr := B.returns
  have hts := atoms_spec (ws := wsX5_sheetsThere) B.pre
  have hown : s.vm.findClass RX5 = some m.cls := findClass_of_methodNamed B.named
  have hlocks := B.notSynchronized
  have hiX5 : ∀ w ∈ wsX50, w ∈ wsX5_sheetsThere := fun w h9 => List.mem_cons_of_mem _ (List.mem_append_right _ (h9))
  have k72 := hts (.fieldLink RX5 72 "WovenHistoryModel" "isThere" "[Z") (List.mem_of_getElem? (i := 1) rfl)
  have hl := lv_entry ([.ref (h 0)]) (n := 3) (Nat.le_of_ble_eq_true rfl)
  rw [lg_entry_eq]
  generalize (lg_sl ([.ref (h 0)]) ++ List.replicate (3 - (lg_sl ([.ref (h 0)])).length) Slot.unset).toArray = ls at hl ⊢
  have hl : lv_has ls 3 [(0, .ref (h 0))] := hl
  refine lv_iconst (v := nI 0) hx hb dX5_sheetsThere_0 (by decide) ?_
  refine lv_istore_n (lv' := [(1, .int (nI 0)), (0, .ref (h 0))]) hx hb dX5_sheetsThere_1 rfl hl (by decide) rfl (fun ls hl => ?_)
  refine lv_iconst (v := nI 0) hx hb dX5_sheetsThere_2 (by decide) ?_
  refine lv_istore_n (lv' := [(2, .int (nI 0)), (1, .int (nI 0)), (0, .ref (h 0))]) hx hb dX5_sheetsThere_3 rfl hl (by decide) rfl (fun ls hl => ?_)
  have LP4 : ∀ (n4m : Nat), ∀ (k : Nat) (j : Nat) (hk : k ≤ 4) (hj : j = cnt (fun i => decide (¬ u.2 32 i = 0)) k) (hj2 : j ≤ k), (4 - k < n4m) → ∀ (ls : Array Slot), lv_has ls 3 [(0, .ref (h 0)), (1, .int (nI j)), (2, .int (nI k))] → W p l e (headSpec wsX5_sheetsThere ({ frames := 0, cells := 0, slots := 0, locals := 0 })).room s m ([.ref (h 0)] : List Value).toArray below meth c s.heap [] 0 0 (MQ below (vp_Si (fun r : Int32 => r = nI (cnt (fun i => decide (¬ u.2 32 i = 0)) 4))) ([.ref (h 0)] : List Value).toArray s 0 0 (fun _ => False)) (F0 m 4 ls []) := by
    intro n4m
    induction n4m with
    | zero => intro k j hk hj hj2 hmu ls hl; exact absurd hmu (Nat.not_lt_zero _)
    | succ n4m ih4 =>
      intro k j hk hj hj2 hmu ls hl
      refine lv_iload_n hx hb dX5_sheetsThere_4 rfl (lv_at hl 2 rfl) ?_
      refine lv_iconst (v := nI 4) hx hb dX5_sheetsThere_5 (by decide) ?_
      refine lv_icmp_ge (tgt := 32) hx hb dX5_sheetsThere_6 (by decide) (fun c6 => ?_) (fun c6 => ?_)
      · skip
        have n6 : 4 ≤ k := (nI_leI (a := 4) (b := k) (by omega) (by omega)).mp c6
        refine lv_iload_n hx hb dX5_sheetsThere_32 rfl (lv_at hl 1 rfl) ?_
        exact W.iret (v := nI j) hx hb hr (fun t ht hW => ⟨nI j, rfl, by rw [hj, show k = 4 by omega], ht⟩) (fun _ h9 => by cases h9) dX5_sheetsThere_33
      · skip
        have n6 : ¬ (4 ≤ k) := fun q9 => c6 ((nI_leI (a := 4) (b := k) (by omega) (by omega)).mpr q9)
        refine lv_iload_n hx hb dX5_sheetsThere_9 rfl (lv_at hl 1 rfl) ?_
        refine lv_aload_n hx hb dX5_sheetsThere_10 rfl (lv_at hl 0 rfl) ?_
        refine va_get (D := gD G) (ci := 5) (v := .ref (h 32)) (C := RX5) (T := TX5) (N := 38) hx hb hts hiX5 hown hK hP 0 rfl rfl 32 (by decide) k72 (fun _ h9 => h9) rfl dX5_sheetsThere_11 ?_
        refine lv_iload_n hx hb dX5_sheetsThere_14 rfl (lv_at hl 2 rfl) ?_
        refine zaldN (f := u.2 32) (n := 4) (k := k) hx hb hK hP 20 rfl rfl (by omega) dX5_sheetsThere_15 ?_
        refine lv_if_eq (tgt := 23) hx hb dX5_sheetsThere_16 (by decide) (fun c16 => ?_) (fun c16 => ?_)
        · skip
          refine lv_iconst (v := nI 0) hx hb dX5_sheetsThere_23 (by decide) ?_
          refine lv_iadd hx hb dX5_sheetsThere_24 ?_
          refine topE (y := nI (j + 0)) (nI_add j 0) ?_
          refine lv_istore_n (lv' := [(1, .int (nI (j + 0))), (0, .ref (h 0)), (2, .int (nI k))]) hx hb dX5_sheetsThere_25 rfl hl (by decide) rfl (fun ls hl => ?_)
          refine lv_iinc (v := nI (k + 1)) (lv' := [(2, .int (nI (k + 1))), (1, .int (nI (j + 0))), (0, .ref (h 0))]) hx hb dX5_sheetsThere_26 hl (k := 2) rfl (nI_1 k) (by decide) rfl (fun ls hl => ?_)
          refine lv_goto (tgt := 4) hx hb dX5_sheetsThere_29 (by decide) ?_
          exact ih4 (k + 1) (j + 0) (by first | assumption | omega) (by first | rfl | omega | (rw [cnt_t (decide_eq_true (by assumption))]; omega) | (rw [cnt_f (decide_eq_false (not_not_intro (by assumption)))]; omega)) (by first | assumption | omega) (by omega) ls (lv_sub hl [2, 1, 0] rfl)
        · skip
          refine lv_iconst (v := nI 1) hx hb dX5_sheetsThere_19 (by decide) ?_
          refine lv_goto (tgt := 24) hx hb dX5_sheetsThere_20 (by decide) ?_
          refine lv_iadd hx hb dX5_sheetsThere_24 ?_
          refine topE (y := nI (j + 1)) (nI_add j 1) ?_
          refine lv_istore_n (lv' := [(1, .int (nI (j + 1))), (0, .ref (h 0)), (2, .int (nI k))]) hx hb dX5_sheetsThere_25 rfl hl (by decide) rfl (fun ls hl => ?_)
          refine lv_iinc (v := nI (k + 1)) (lv' := [(2, .int (nI (k + 1))), (1, .int (nI (j + 1))), (0, .ref (h 0))]) hx hb dX5_sheetsThere_26 hl (k := 2) rfl (nI_1 k) (by decide) rfl (fun ls hl => ?_)
          refine lv_goto (tgt := 4) hx hb dX5_sheetsThere_29 (by decide) ?_
          exact ih4 (k + 1) (j + 1) (by first | assumption | omega) (by first | rfl | omega | (rw [cnt_t (decide_eq_true (by assumption))]; omega) | (rw [cnt_f (decide_eq_false (not_not_intro (by assumption)))]; omega)) (by first | assumption | omega) (by omega) ls (lv_sub hl [2, 1, 0] rfl)
  exact LP4 (4 - 0 + 1) 0 0 (by first | assumption | omega) (by first | rfl | omega | (rw [cnt_t (decide_eq_true (by assumption))]; omega) | (rw [cnt_f (decide_eq_false (not_not_intro (by assumption)))]; omega)) (by first | assumption | omega) (Nat.lt_succ_self _) ls (lv_sub hl [2, 1, 0] rfl)
set_option maxHeartbeats 1000000 in
set_option maxRecDepth 100000 in
theorem mt_X5_isSheet (l : Launch) (s1 : Int32) : Met l yX5_isSheet wsX5_isSheet ({ frames := 1, cells := 0, slots := 0, locals := 25 }) (preS [.int s1]) (vp_Si (fun r : Int32 => (r = 1 ∧ ∃ j, j < 4 ∧ s1 = nI j) ∨ (r = 0 ∧ ∀ j, j < 4 → s1 ≠ nI j))) 0 0 (fun _ => False) := by
  refine Met.ofW (cc := cX5_isSheet) (maxL := 1) (ret := (some .boolean)) (by decide) rfl ?_
  intro p e s m args below meth c s₁ B hml hv
  obtain ⟨ha, -⟩ := hv
  subst ha
  have hx := B.exec
  have hb := B.bytes
  have hr := B.returns
  have hts := atoms_spec (ws := wsX5_isSheet) B.pre
  have hown : s.vm.findClass RX5 = some m.cls := findClass_of_methodNamed B.named
  have hlocks := B.notSynchronized
  have hl := lv_entry ([.int s1]) (n := 1) (Nat.le_of_ble_eq_true rfl)
  rw [lg_entry_eq]
  generalize (lg_sl ([.int s1]) ++ List.replicate (1 - (lg_sl ([.int s1])).length) Slot.unset).toArray = ls at hl ⊢
  have hl : lv_has ls 1 [(0, .int s1)] := hl
  refine lv_iload_n hx hb dX5_isSheet_0 rfl (lv_at hl 0 rfl) ?_
  refine lv_i2l (v := s1.toInt64) hx hb dX5_isSheet_1 rfl ?_
  refine lv_lconst (v := 0) hx hb dX5_isSheet_2 (by decide) ?_
  refine lv_ldc2 (v := 3) hx hb hown (hts (.constantLong RX5 276 (3)) (List.mem_of_getElem? (i := 1) rfl)) dX5_isSheet_3 ?_
  refine cSi (As := [.long s1.toInt64, .long 0, .long 3]) (rest := []) ⟨hx, hb, hml, hown, hts⟩ (mt_X5_in l s1.toInt64 0 3) (va_cwS 3 hts gX5_isSheet_X5_in rfl rfl rfl hd_X5_in ⟨Nat.le_of_ble_eq_true rfl, Nat.le_of_ble_eq_true rfl⟩) rfl hl.1 rfl (Nat.le_of_ble_eq_true rfl) ⟨Nat.zero_le _, Nat.zero_le _⟩ dX5_isSheet_6 (fun r6 hw6 => ?_)
  rcases hw6 with ⟨rfl, ha6, hb6⟩ | ⟨rfl, hn6⟩
  · skip
    exact W.zret (v := (1 : Int32)) hx hb hr (by decide) (fun t ht hW => ⟨(1 : Int32), rfl, by first | exact Or.inl ⟨rfl, ish_y (by assumption) (by assumption)⟩ | exact Or.inr ⟨rfl, ish_n (by assumption)⟩, ht⟩) (fun _ h9 => by cases h9) dX5_isSheet_9
  · skip
    exact W.zret (v := (0 : Int32)) hx hb hr (by decide) (fun t ht hW => ⟨(0 : Int32), rfl, by first | exact Or.inl ⟨rfl, ish_y (by assumption) (by assumption)⟩ | exact Or.inr ⟨rfl, ish_n (by assumption)⟩, ht⟩) (fun _ h9 => by cases h9) dX5_isSheet_9
set_option maxHeartbeats 1000000 in
set_option maxRecDepth 100000 in
theorem mt_X5_refused (l : Launch) (G : gG) (h : Nat → Nat) (u : oS) (lt : Int64) (sj : Nat → Int64) (s1 : Int32) (i1 : Int32) (q : Nat) (hsz4 : ∀ j, j < 4 → ∃ z, z ≤ 40 ∧ u.2 33 j = nI z) (hq : q < 2147483648) : Met l yX5_refused wsX5_refused ({ frames := 2, cells := 0, slots := 0, locals := 45 }) (preR G (mw G h u lt sj) [.ref (h 0), .int s1, .int i1, .int (nI q)]) (vp_Si (fun r : Int32 => (r = 0 ∧ ∃ js ji z, js < 4 ∧ s1 = nI js ∧ ¬ u.2 32 js = 0 ∧ z ≤ 40 ∧ u.2 33 js = nI z ∧ i1 = nI ji ∧ ji + q ≤ z) ∨ (r = -1000000001 ∧ ∀ j, j < 4 → s1 ≠ nI j) ∨ (r = -1000000011 ∧ ∃ js, js < 4 ∧ s1 = nI js ∧ u.2 32 js = 0) ∨ (r = -1000000012 ∧ ∃ js z, js < 4 ∧ s1 = nI js ∧ ¬ u.2 32 js = 0 ∧ z ≤ 40 ∧ u.2 33 js = nI z ∧ ¬ ∃ ji, i1 = nI ji ∧ ji + q ≤ z))) 0 0 (fun _ => False) := by
  refine Met.ofW (cc := cX5_refused) (maxL := 4) (ret := (some .int)) (by decide) rfl ?_
  intro p e s m args below meth c s₁ B hml hv
  obtain ⟨ha, hP, hK, hN⟩ := hv
  subst ha
  have hx := B.exec
  have hb := B.bytes
  have hr := B.returns
  have hts := atoms_spec (ws := wsX5_refused) B.pre
  have hown : s.vm.findClass RX5 = some m.cls := findClass_of_methodNamed B.named
  have hlocks := B.notSynchronized
  have hiX5 : ∀ w ∈ wsX50, w ∈ wsX5_refused := fun w h9 => List.mem_cons_of_mem _ (List.mem_append_right _ (h9))
  have k72 := hts (.fieldLink RX5 72 "WovenHistoryModel" "isThere" "[Z") (List.mem_of_getElem? (i := 2) rfl)
  have k75 := hts (.fieldLink RX5 75 "WovenHistoryModel" "sizes" "[I") (List.mem_of_getElem? (i := 4) rfl)
  have hl := lv_entry ([.ref (h 0), .int s1, .int i1, .int (nI q)]) (n := 4) (Nat.le_of_ble_eq_true rfl)
  rw [lg_entry_eq]
  generalize (lg_sl ([.ref (h 0), .int s1, .int i1, .int (nI q)]) ++ List.replicate (4 - (lg_sl ([.ref (h 0), .int s1, .int i1, .int (nI q)])).length) Slot.unset).toArray = ls at hl ⊢
  have hl : lv_has ls 4 [(0, .ref (h 0)), (1, .int s1), (2, .int i1), (3, .int (nI q))] := hl
  refine lv_iload_n hx hb dX5_refused_0 rfl (lv_at hl 1 rfl) ?_
  refine cSi (As := [.int s1]) (rest := []) ⟨hx, hb, hml, hown, hts⟩ (mt_X5_isSheet l s1) (va_cwS 1 hts gX5_refused_X5_isSheet rfl rfl rfl hd_X5_isSheet ⟨Nat.le_of_ble_eq_true rfl, Nat.le_of_ble_eq_true rfl⟩) rfl hl.1 rfl (Nat.le_of_ble_eq_true rfl) ⟨Nat.zero_le _, Nat.zero_le _⟩ dX5_refused_1 (fun r1 hw1 => ?_)
  rcases hw1 with ⟨rfl, j1, hj1, rfl⟩ | ⟨rfl, hn1⟩
  · skip
    obtain ⟨z1, hz1, ez1⟩ := hsz4 j1 hj1
    refine lv_if_ne (tgt := 10) hx hb dX5_refused_4 (by decide) (fun _ => ?_) (fun c9 => absurd c9 (by decide))
    refine lv_aload_n hx hb dX5_refused_10 rfl (lv_at hl 0 rfl) ?_
    refine va_get (D := gD G) (ci := 5) (v := .ref (h 32)) (C := RX5) (T := TX5) (N := 38) hx hb hts hiX5 hown hK hP 0 rfl rfl 32 (by decide) k72 (fun _ h9 => h9) rfl dX5_refused_11 ?_
    refine lv_iload_n hx hb dX5_refused_14 rfl (lv_at hl 1 rfl) ?_
    refine zaldN (f := u.2 32) (n := 4) (k := j1) hx hb hK hP 20 rfl rfl (by omega) dX5_refused_15 ?_
    refine lv_if_ne (tgt := 23) hx hb dX5_refused_16 (by decide) (fun c16 => ?_) (fun c16 => ?_)
    · skip
      refine lv_iload_n hx hb dX5_refused_23 rfl (lv_at hl 2 rfl) ?_
      refine lv_if_lt (tgt := 39) hx hb dX5_refused_24 (by decide) (fun c24 => ?_) (fun c24 => ?_)
      · skip
        refine lv_ldcw (v := (-1000000012 : Int32)) hx hb hown (hts (.constant RX5 284 (-1000000012)) (List.mem_of_getElem? (i := 5) rfl)) dX5_refused_39 ?_
        refine lv_goto (tgt := 46) hx hb dX5_refused_42 (by decide) ?_
        exact W.iret (v := (-1000000012 : Int32)) hx hb hr (fun t ht hW => ⟨(-1000000012 : Int32), rfl, by first | (obtain ⟨ji, e1, e2⟩ := ref_y hz1 hq (by assumption) (by assumption); exact Or.inl ⟨rfl, j1, ji, z1, hj1, rfl, by assumption, hz1, ez1, e1, e2⟩) | exact Or.inr (Or.inr (Or.inr ⟨rfl, j1, z1, hj1, rfl, by assumption, hz1, ez1, ref_n hz1 hq (by first | exact Or.inl (by assumption) | exact Or.inr (by assumption))⟩)), ht⟩) (fun _ h9 => by cases h9) dX5_refused_46
      · skip
        refine lv_iload_n hx hb dX5_refused_27 rfl (lv_at hl 2 rfl) ?_
        refine lv_aload_n hx hb dX5_refused_28 rfl (lv_at hl 0 rfl) ?_
        refine va_get (D := gD G) (ci := 5) (v := .ref (h 33)) (C := RX5) (T := TX5) (N := 38) hx hb hts hiX5 hown hK hP 0 rfl rfl 33 (by decide) k75 (fun _ h9 => h9) rfl dX5_refused_29 ?_
        refine lv_iload_n hx hb dX5_refused_32 rfl (lv_at hl 1 rfl) ?_
        refine ialdN (f := u.2 33) (n := 4) (k := j1) hx hb hK hP 21 rfl rfl (by omega) dX5_refused_33 ?_
        refine topE ez1 ?_
        refine lv_iload_n hx hb dX5_refused_34 rfl (lv_at hl 3 rfl) ?_
        refine lv_isub hx hb dX5_refused_35 ?_
        refine lv_icmp_le (tgt := 45) hx hb dX5_refused_36 (by decide) (fun c36 => ?_) (fun c36 => ?_)
        · skip
          refine lv_iconst (v := nI 0) hx hb dX5_refused_45 (by decide) ?_
          exact W.iret (v := nI 0) hx hb hr (fun t ht hW => ⟨nI 0, rfl, by first | (obtain ⟨ji, e1, e2⟩ := ref_y hz1 hq (by assumption) (by assumption); exact Or.inl ⟨rfl, j1, ji, z1, hj1, rfl, by assumption, hz1, ez1, e1, e2⟩) | exact Or.inr (Or.inr (Or.inr ⟨rfl, j1, z1, hj1, rfl, by assumption, hz1, ez1, ref_n hz1 hq (by first | exact Or.inl (by assumption) | exact Or.inr (by assumption))⟩)), ht⟩) (fun _ h9 => by cases h9) dX5_refused_46
        · skip
          refine lv_ldcw (v := (-1000000012 : Int32)) hx hb hown (hts (.constant RX5 284 (-1000000012)) (List.mem_of_getElem? (i := 5) rfl)) dX5_refused_39 ?_
          refine lv_goto (tgt := 46) hx hb dX5_refused_42 (by decide) ?_
          exact W.iret (v := (-1000000012 : Int32)) hx hb hr (fun t ht hW => ⟨(-1000000012 : Int32), rfl, by first | (obtain ⟨ji, e1, e2⟩ := ref_y hz1 hq (by assumption) (by assumption); exact Or.inl ⟨rfl, j1, ji, z1, hj1, rfl, by assumption, hz1, ez1, e1, e2⟩) | exact Or.inr (Or.inr (Or.inr ⟨rfl, j1, z1, hj1, rfl, by assumption, hz1, ez1, ref_n hz1 hq (by first | exact Or.inl (by assumption) | exact Or.inr (by assumption))⟩)), ht⟩) (fun _ h9 => by cases h9) dX5_refused_46
    · skip
      refine lv_ldcw (v := (-1000000011 : Int32)) hx hb hown (hts (.constant RX5 283 (-1000000011)) (List.mem_of_getElem? (i := 3) rfl)) dX5_refused_19 ?_
      exact W.iret (v := (-1000000011 : Int32)) hx hb hr (fun t ht hW => ⟨(-1000000011 : Int32), rfl, Or.inr (Or.inr (Or.inl ⟨rfl, j1, hj1, rfl, by assumption⟩)), ht⟩) (fun _ h9 => by cases h9) dX5_refused_22
  · skip
    refine lv_if_ne (tgt := 10) hx hb dX5_refused_4 (by decide) (fun c9 => absurd (by decide) c9) (fun _ => ?_)
    refine lv_ldc (v := (-1000000001 : Int32)) hx hb hown (hts (.constant RX5 216 (-1000000001)) (List.mem_of_getElem? (i := 1) rfl)) dX5_refused_7 ?_
    exact W.iret (v := (-1000000001 : Int32)) hx hb hr (fun t ht hW => ⟨(-1000000001 : Int32), rfl, Or.inr (Or.inl ⟨rfl, by assumption⟩), ht⟩) (fun _ h9 => by cases h9) dX5_refused_9
set_option maxHeartbeats 1000000 in
set_option maxRecDepth 100000 in
theorem mt_X5_fault (l : Launch) (G : gG) (h : Nat → Nat) (u : oS) (lt : Int64) (sj : Nat → Int64) : Met l yX5_fault wsX5_fault ({ frames := 0, cells := 0, slots := 0, locals := 0 }) (preR G (mw G h u lt sj) [.ref (h 0)]) (vp_Si (fun r : Int32 => r = u.1 11)) 0 0 (fun _ => False) := by
  refine Met.ofW (cc := cX5_fault) (maxL := 1) (ret := (some .int)) (by decide) rfl ?_
  intro p e s m args below meth c s₁ B hml hv
  obtain ⟨ha, hP, hK, hN⟩ := hv
  subst ha
  have hx := B.exec
  have hb := B.bytes
  have hr := B.returns
  have hts := atoms_spec (ws := wsX5_fault) B.pre
  have hown : s.vm.findClass RX5 = some m.cls := findClass_of_methodNamed B.named
  have hlocks := B.notSynchronized
  have hiX5 : ∀ w ∈ wsX50, w ∈ wsX5_fault := fun w h9 => List.mem_cons_of_mem _ (List.mem_append_right _ (h9))
  have k31 := hts (.fieldLink RX5 31 "WovenHistoryModel" "faultPlace" "I") (List.mem_of_getElem? (i := 1) rfl)
  have hl := lv_entry ([.ref (h 0)]) (n := 1) (Nat.le_of_ble_eq_true rfl)
  rw [lg_entry_eq]
  generalize (lg_sl ([.ref (h 0)]) ++ List.replicate (1 - (lg_sl ([.ref (h 0)])).length) Slot.unset).toArray = ls at hl ⊢
  have hl : lv_has ls 1 [(0, .ref (h 0))] := hl
  refine lv_aload_n hx hb dX5_fault_0 rfl (lv_at hl 0 rfl) ?_
  refine va_get (D := gD G) (ci := 5) (v := .int (u.1 11)) (C := RX5) (T := TX5) (N := 38) hx hb hts hiX5 hown hK hP 0 rfl rfl 11 (by decide) k31 (fun _ h9 => h9) rfl dX5_fault_1 ?_
  exact W.iret (v := u.1 11) hx hb hr (fun t ht hW => ⟨u.1 11, rfl, rfl, ht⟩) (fun _ h9 => by cases h9) dX5_fault_4
set_option maxHeartbeats 1000000 in
set_option maxRecDepth 100000 in
theorem mt_X5_changesOf (l : Launch) (G : gG) (h : Nat → Nat) (sz : Nat) (u : oS) (lt : Int64) (sj : Nat → Int64) (g0 : Nat → Int32) (j : Nat) (hj24 : j ≤ 24) (hpar : parOK (u.2 1) (j + 1)) : Met l yX5_changesOf wsX5_changesOf ({ frames := 0, cells := 0, slots := 0, locals := 0 }) (preW G (mw G h (oA u 26 g0) lt sj) sz [.ref (h 0), .int (nI j)]) (va_Qi (fun (r : Int32) (v : oS × Int64 × (Nat → Int64)) => ∃ g, v = (oA u 26 g, lt, sj) ∧ r = chV (u.2 1) (u.2 2) (u.2 3) (nI j)) (fun v t => PP G (mw G h v.1 v.2.1 v.2.2) t.heap) (va_A (mw G h (oA u 26 g0) lt sj) sz)) 0 0 (va_A (mw G h (oA u 26 g0) lt sj) sz) := by
  refine Met.ofW (cc := cX5_changesOf) (maxL := 6) (ret := (some .int)) (by decide) rfl ?_
  intro p e s m args below meth c s₁ B hml hv
  obtain ⟨ha, hsz, hP, hK, hN, hD0⟩ := hv
  subst ha
  have hx := B.exec
  have hb := B.bytes
  have hr := B.returns
  have hts := atoms_spec (ws := wsX5_changesOf) B.pre
  have hown : s.vm.findClass RX5 = some m.cls := findClass_of_methodNamed B.named
  have hlocks := B.notSynchronized
  subst hsz
  have hD := hD0.self (sz := s.heap.size)
  generalize hAe : va_A (mw G h (oA u 26 g0) lt sj) s.heap.size = A at hD ⊢
  have hA : ∀ q : Nat, s.heap.size ≤ q → A q := fun q h => by rw [← hAe]; exact Or.inr h
  clear hAe hD0
  have hS : va_S A s.heap s.heap [] := va_S.rf
  have hiX5 : ∀ w ∈ wsX50, w ∈ wsX5_changesOf := fun w h9 => List.mem_cons_of_mem _ (List.mem_append_right _ (h9))
  have k60 := hts (.fieldLink RX5 60 "WovenHistoryModel" "chain" "[I") (List.mem_of_getElem? (i := 1) rfl)
  have k7 := hts (.fieldLink RX5 7 "WovenHistoryModel" "parent" "[I") (List.mem_of_getElem? (i := 2) rfl)
  have k13 := hts (.fieldLink RX5 13 "WovenHistoryModel" "includes" "[I") (List.mem_of_getElem? (i := 3) rfl)
  have k16 := hts (.fieldLink RX5 16 "WovenHistoryModel" "excludes" "[I") (List.mem_of_getElem? (i := 4) rfl)
  have hl := lv_entry ([.ref (h 0), .int (nI j)]) (n := 6) (Nat.le_of_ble_eq_true rfl)
  rw [lg_entry_eq]
  generalize (lg_sl ([.ref (h 0), .int (nI j)]) ++ List.replicate (6 - (lg_sl ([.ref (h 0), .int (nI j)])).length) Slot.unset).toArray = ls at hl ⊢
  have hl : lv_has ls 6 [(0, .ref (h 0)), (1, .int (nI j))] := hl
  refine lv_iconst (v := nI 0) hx hb dX5_changesOf_0 (by decide) ?_
  refine lv_istore_n (lv' := [(2, .int (nI 0)), (0, .ref (h 0)), (1, .int (nI j))]) hx hb dX5_changesOf_1 rfl hl (by decide) rfl (fun ls hl => ?_)
  refine lv_iconst (v := nI 0) hx hb dX5_changesOf_2 (by decide) ?_
  refine lv_istore_n (lv' := [(3, .int (nI 0)), (2, .int (nI 0)), (0, .ref (h 0)), (1, .int (nI j))]) hx hb dX5_changesOf_3 rfl hl (by decide) rfl (fun ls hl => ?_)
  refine lv_iload_n hx hb dX5_changesOf_4 rfl (lv_at hl 3 rfl) ?_
  refine lv_istore (lv' := [(4, .int (nI j)), (3, .int (nI 0)), (2, .int (nI 0)), (0, .ref (h 0)), (1, .int (nI j))]) hx hb dX5_changesOf_5 hl (by decide) rfl (fun ls hl => ?_)
  have LP7 : ∀ (n7m : Nat), ∀ (mm : Nat) (y : Int32) (g : Nat → Int32) (hy : y = -1 ∨ ∃ i, y = nI i ∧ i + mm ≤ j) (hmm : mm ≤ j + 1) (hg : chI (u.2 1) (u.2 2) (u.2 3) g mm y) (hs : chS g mm y j), (j + 2 - mm < n7m) → ∀ (H : Heap) (locs : List Loc) (ls : Array Slot), PP G (mw G h (oA u 26 g) lt sj) H → va_D A (mw G h (oA u 26 g) lt sj) → va_S A s.heap H locs → lv_has ls 6 [(0, .ref (h 0)), (2, .int (nI 0)), (3, .int (nI mm)), (4, .int y)] → W p l e (headSpec wsX5_changesOf ({ frames := 0, cells := 0, slots := 0, locals := 0 })).room s m ([.ref (h 0), .int (nI j)] : List Value).toArray below meth c H locs 0 0 (MQ below (va_Qi (fun (r : Int32) (v : oS × Int64 × (Nat → Int64)) => ∃ g, v = (oA u 26 g, lt, sj) ∧ r = chV (u.2 1) (u.2 2) (u.2 3) (nI j)) (fun v t => PP G (mw G h v.1 v.2.1 v.2.2) t.heap) A) ([.ref (h 0), .int (nI j)] : List Value).toArray s 0 0 A) (F0 m 7 ls []) := by
    intro n7m
    induction n7m with
    | zero => intro mm y g hy hmm hg hs hmu H locs ls hP hD hS hl; exact absurd hmu (Nat.not_lt_zero _)
    | succ n7m ih7 =>
      intro mm y g hy hmm hg hs hmu H locs ls hP hD hS hl
      refine lv_iload hx hb dX5_changesOf_7 (lv_at hl 3 rfl) ?_
      refine lv_if_lt (tgt := 35) hx hb dX5_changesOf_9 (by decide) (fun c9 => ?_) (fun c9 => ?_)
      · skip
        refine lv_iload_n hx hb dX5_changesOf_35 rfl (lv_at hl 2 rfl) ?_
        refine lv_iconst (v := nI 1) hx hb dX5_changesOf_36 (by decide) ?_
        refine lv_isub hx hb dX5_changesOf_37 ?_
        refine topE (y := nI mm + (-1)) (nI_subm mm) ?_
        refine lv_istore (lv' := [(4, .int (nI mm + (-1))), (0, .ref (h 0)), (2, .int (nI 0)), (3, .int (nI mm))]) hx hb dX5_changesOf_38 hl (by decide) rfl (fun ls hl => ?_)
        have LP40 : ∀ (n40m : Nat), ∀ (kk : Nat) (x : Int32) (hkk : kk ≤ mm) (hxv : x = chV (u.2 1) (u.2 2) (u.2 3) (if kk = mm then y else g kk)), (kk < n40m) → ∀ (H : Heap) (locs : List Loc) (ls : Array Slot), PP G (mw G h (oA u 26 g) lt sj) H → va_D A (mw G h (oA u 26 g) lt sj) → va_S A s.heap H locs → lv_has ls 6 [(0, .ref (h 0)), (2, .int x), (4, .int (nI kk + (-1)))] → W p l e (headSpec wsX5_changesOf ({ frames := 0, cells := 0, slots := 0, locals := 0 })).room s m ([.ref (h 0), .int (nI j)] : List Value).toArray below meth c H locs 0 0 (MQ below (va_Qi (fun (r : Int32) (v : oS × Int64 × (Nat → Int64)) => ∃ g, v = (oA u 26 g, lt, sj) ∧ r = chV (u.2 1) (u.2 2) (u.2 3) (nI j)) (fun v t => PP G (mw G h v.1 v.2.1 v.2.2) t.heap) A) ([.ref (h 0), .int (nI j)] : List Value).toArray s 0 0 A) (F0 m 40 ls []) := by
          intro n40m
          induction n40m with
          | zero => intro kk x hkk hxv hmu H locs ls hP hD hS hl; exact absurd hmu (Nat.not_lt_zero _)
          | succ n40m ih40 =>
            intro kk x hkk hxv hmu H locs ls hP hD hS hl
            refine lv_iload hx hb dX5_changesOf_40 (lv_at hl 2 rfl) ?_
            refine lv_if_lt (tgt := 85) hx hb dX5_changesOf_42 (by decide) (fun c42 => ?_) (fun c42 => ?_)
            · skip
              have ek : kk = 0 := nI_m1neg (by omega) c42
              subst ek
              refine lv_iload_n hx hb dX5_changesOf_85 rfl (lv_at hl 1 rfl) ?_
              exact W.iret (v := x) hx hb hr (fun t ht hW => ⟨⟨x, (oA u 26 g, lt, sj), rfl, ⟨_, rfl, chS_end (V := chV (u.2 1) (u.2 2) (u.2 3)) hs hxv⟩, show PP G (mw G h (oA u 26 g) lt sj) t.heap by rw [ht]; exact hP⟩, hS.F ht⟩) hS.2.2 dX5_changesOf_86
            · skip
              obtain ⟨k42, rfl⟩ := nI_m1pos c42
              rw [pk_m1] at hl
              obtain ⟨c42a, hc42, ec42, hv42⟩ := hg k42 (by omega)
              rw [ec42] at hv42
              refine lv_aload_n hx hb dX5_changesOf_45 rfl (lv_at hl 0 rfl) ?_
              refine va_get (D := gD G) (ci := 5) (v := .ref (h 26)) (C := RX5) (T := TX5) (N := 38) hx hb hts hiX5 hown hK hP 0 rfl rfl 26 (by decide) k60 (fun _ h9 => h9) rfl dX5_changesOf_46 ?_
              refine lv_iload hx hb dX5_changesOf_49 (lv_at hl 2 rfl) ?_
              refine ialdN (f := g) (n := 25) (k := k42) hx hb hK hP 16 rfl rfl (by omega) dX5_changesOf_51 ?_
              refine topE ec42 ?_
              refine lv_istore (lv' := [(5, .int (nI c42a)), (0, .ref (h 0)), (2, .int x), (4, .int (nI k42))]) hx hb dX5_changesOf_52 hl (by decide) rfl (fun ls hl => ?_)
              refine lv_iload_n hx hb dX5_changesOf_54 rfl (lv_at hl 2 rfl) ?_
              refine lv_aload_n hx hb dX5_changesOf_55 rfl (lv_at hl 1 rfl) ?_
              refine va_get (D := gD G) (ci := 5) (v := .ref (h 2)) (C := RX5) (T := TX5) (N := 38) hx hb hts hiX5 hown hK hP 0 rfl rfl 2 (by decide) k13 (fun _ h9 => h9) rfl dX5_changesOf_56 ?_
              refine lv_iload hx hb dX5_changesOf_59 (lv_at hl 0 rfl) ?_
              refine ialdN (f := u.2 2) (n := 25) (k := c42a) hx hb hK hP 2 rfl rfl (by omega) dX5_changesOf_61 ?_
              refine lv_ior hx hb dX5_changesOf_62 ?_
              refine lv_aload_n hx hb dX5_changesOf_63 rfl (lv_at hl 1 rfl) ?_
              refine va_get (D := gD G) (ci := 5) (v := .ref (h 3)) (C := RX5) (T := TX5) (N := 38) hx hb hts hiX5 hown hK hP 0 rfl rfl 3 (by decide) k16 (fun _ h9 => h9) rfl dX5_changesOf_64 ?_
              refine lv_iload hx hb dX5_changesOf_67 (lv_at hl 0 rfl) ?_
              refine ialdN (f := u.2 3) (n := 25) (k := c42a) hx hb hK hP 3 rfl rfl (by omega) dX5_changesOf_69 ?_
              refine lv_iconst (v := (-1 : Int32)) hx hb dX5_changesOf_70 (by decide) ?_
              refine lv_ixor hx hb dX5_changesOf_71 ?_
              refine lv_iand hx hb dX5_changesOf_72 ?_
              refine lv_iconst (v := (1 : Int32)) hx hb dX5_changesOf_73 (by decide) ?_
              refine lv_iload hx hb dX5_changesOf_74 (lv_at hl 0 rfl) ?_
              refine lv_ishl hx hb dX5_changesOf_76 ?_
              refine lv_ior hx hb dX5_changesOf_77 ?_
              refine lv_istore_n (lv' := [(2, .int (((x ||| ((u.2 2) c42a)) &&& (((u.2 3) c42a) ^^^ (-1 : Int32))) ||| ((1 : Int32) <<< ((nI c42a) &&& 31)))), (5, .int (nI c42a)), (0, .ref (h 0)), (4, .int (nI k42))]) hx hb dX5_changesOf_78 rfl hl (by decide) rfl (fun ls hl => ?_)
              refine lv_iinc (v := (nI k42) + (-1)) (lv' := [(4, .int ((nI k42) + (-1))), (2, .int (((x ||| ((u.2 2) c42a)) &&& (((u.2 3) c42a) ^^^ (-1 : Int32))) ||| ((1 : Int32) <<< ((nI c42a) &&& 31)))), (5, .int (nI c42a)), (0, .ref (h 0))]) hx hb dX5_changesOf_79 hl (k := 3) rfl (rfl) (by decide) rfl (fun ls hl => ?_)
              refine lv_goto (tgt := 40) hx hb dX5_changesOf_82 (by decide) ?_
              exact ih40 k42 (((x ||| ((u.2 2) c42a)) &&& (((u.2 3) c42a) ^^^ (-1 : Int32))) ||| ((1 : Int32) <<< ((nI c42a) &&& 31))) (by first | assumption | omega) (by rw [if_neg (by omega), ec42, hxv]; exact hv42.symm) (by omega) _ _ ls hP hD hS (lv_sub hl [3, 1, 0] rfl)
        exact LP40 (mm + 1) mm (nI 0) (by first | assumption | omega) (by rw [if_pos rfl, hy.resolve_right (fun ⟨i, e, _⟩ => absurd c9 (by rw [e]; exact nI_pos (by omega))), chV_m1]; rfl) (Nat.lt_succ_self _) _ _ ls hP hD hS (lv_sub hl [1, 2, 0] rfl)
      · skip
        obtain ⟨i9, rfl, hi9⟩ : ∃ i, y = nI i ∧ i + mm ≤ j := hy.resolve_left (fun e => c9 (by rw [e]; decide))
        refine lv_aload_n hx hb dX5_changesOf_12 rfl (lv_at hl 0 rfl) ?_
        refine va_get (D := gD G) (ci := 5) (v := .ref (h 26)) (C := RX5) (T := TX5) (N := 38) hx hb hts hiX5 hown hK hP 0 rfl rfl 26 (by decide) k60 (fun _ h9 => h9) rfl dX5_changesOf_13 ?_
        refine lv_iload_n hx hb dX5_changesOf_16 rfl (lv_at hl 2 rfl) ?_
        refine lv_iload hx hb dX5_changesOf_17 (lv_at hl 3 rfl) ?_
        refine iastN (f := g) (n := 25) (k := mm) hx hb hK hP hD hS 16 rfl rfl (by omega) dX5_changesOf_19 (fun H locs hP hD hS => ?_)
        have hP : PP G (mw G h (oA u 26 (upd g mm (nI i9))) lt sj) H := hP
        have hD : va_D A (mw G h (oA u 26 (upd g mm (nI i9))) lt sj) := hD
        refine lv_iinc (v := nI (mm + 1)) (lv' := [(3, .int (nI (mm + 1))), (0, .ref (h 0)), (2, .int (nI 0)), (4, .int (nI i9))]) hx hb dX5_changesOf_20 hl (k := 2) rfl (nI_1 mm) (by decide) rfl (fun ls hl => ?_)
        refine lv_aload_n hx hb dX5_changesOf_23 rfl (lv_at hl 1 rfl) ?_
        refine va_get (D := gD G) (ci := 5) (v := .ref (h 1)) (C := RX5) (T := TX5) (N := 38) hx hb hts hiX5 hown hK hP 0 rfl rfl 1 (by decide) k7 (fun _ h9 => h9) rfl dX5_changesOf_24 ?_
        refine lv_iload hx hb dX5_changesOf_27 (lv_at hl 3 rfl) ?_
        refine ialdN (f := u.2 1) (n := 25) (k := i9) hx hb hK hP 1 rfl rfl (by omega) dX5_changesOf_29 ?_
        refine lv_istore (lv' := [(4, .int ((u.2 1) i9)), (3, .int (nI (mm + 1))), (0, .ref (h 0)), (2, .int (nI 0))]) hx hb dX5_changesOf_30 hl (by decide) rfl (fun ls hl => ?_)
        refine lv_goto (tgt := 7) hx hb dX5_changesOf_32 (by decide) ?_
        exact ih7 (mm + 1) ((u.2 1) i9) (upd g mm (nI i9)) ((hpar i9 (by omega)).imp id (fun ⟨t, ht, e⟩ => ⟨t, e, by omega⟩)) (by first | assumption | omega) (chI_step hg (by omega) (hpar.le (by omega))) (chS_step hs) (by omega) _ _ ls hP hD hS (lv_sub hl [2, 3, 1, 0] rfl)
  exact LP7 (j + 2 - 0 + 1) 0 (nI j) g0 (Or.inr ⟨j, rfl, by omega⟩) (by first | assumption | omega) (chI_0) (⟨fun _ => rfl, fun q => absurd q (Nat.lt_irrefl 0)⟩) (Nat.lt_succ_self _) _ _ ls hP hD hS (lv_sub hl [3, 2, 1, 0] rfl)
set_option maxHeartbeats 1000000 in
set_option maxRecDepth 100000 in
theorem mt_X5_lifeOf (l : Launch) (G : gG) (h : Nat → Nat) (sz : Nat) (u : oS) (lt : Int64) (sj : Nat → Int64) (g0 : Nat → Int32) (nv : Nat) (ii : Nat) (hnv : u.1 0 = nI nv) (hnv24 : nv ≤ 24) (hii : ii < 120) (hparV : parOK (u.2 1) nv) : Met l yX5_lifeOf wsX5_lifeOf ({ frames := 2, cells := 0, slots := 0, locals := 43 }) (preW G (mw G h (oA u 26 g0) lt sj) sz [.ref (h 0), .int (nI ii)]) (va_Qi (fun (r : Int32) (v : oS × Int64 × (Nat → Int64)) => ∃ g, v = (oA u 26 g, lt, sj)) (fun v t => PP G (mw G h v.1 v.2.1 v.2.2) t.heap) (va_A (mw G h (oA u 26 g0) lt sj) sz)) 0 0 (va_A (mw G h (oA u 26 g0) lt sj) sz) := by
  refine Met.ofW (cc := cX5_lifeOf) (maxL := 4) (ret := (some .int)) (by decide) rfl ?_
  intro p e s m args below meth c s₁ B hml hv
  obtain ⟨ha, hsz, hP, hK, hN, hD0⟩ := hv
  subst ha
  have hx := B.exec
  have hb := B.bytes
  have hr := B.returns
  have hts := atoms_spec (ws := wsX5_lifeOf) B.pre
  have hown : s.vm.findClass RX5 = some m.cls := findClass_of_methodNamed B.named
  have hlocks := B.notSynchronized
  subst hsz
  have hD := hD0.self (sz := s.heap.size)
  generalize hAe : va_A (mw G h (oA u 26 g0) lt sj) s.heap.size = A at hD ⊢
  have hA : ∀ q : Nat, s.heap.size ≤ q → A q := fun q h => by rw [← hAe]; exact Or.inr h
  clear hAe hD0
  have hS : va_S A s.heap s.heap [] := va_S.rf
  have hiX5 : ∀ w ∈ wsX50, w ∈ wsX5_lifeOf := fun w h9 => List.mem_cons_of_mem _ (List.mem_append_right _ (h9))
  have k91 := hts (.fieldLink RX5 91 "WovenHistoryModel" "versions" "I") (List.mem_of_getElem? (i := 1) rfl)
  have hl := lv_entry ([.ref (h 0), .int (nI ii)]) (n := 4) (Nat.le_of_ble_eq_true rfl)
  rw [lg_entry_eq]
  generalize (lg_sl ([.ref (h 0), .int (nI ii)]) ++ List.replicate (4 - (lg_sl ([.ref (h 0), .int (nI ii)])).length) Slot.unset).toArray = ls at hl ⊢
  have hl : lv_has ls 4 [(0, .ref (h 0)), (1, .int (nI ii))] := hl
  refine lv_iconst (v := nI 0) hx hb dX5_lifeOf_0 (by decide) ?_
  refine lv_istore_n (lv' := [(2, .int (nI 0)), (0, .ref (h 0)), (1, .int (nI ii))]) hx hb dX5_lifeOf_1 rfl hl (by decide) rfl (fun ls hl => ?_)
  refine lv_iconst (v := nI 0) hx hb dX5_lifeOf_2 (by decide) ?_
  refine lv_istore_n (lv' := [(3, .int (nI 0)), (2, .int (nI 0)), (0, .ref (h 0)), (1, .int (nI ii))]) hx hb dX5_lifeOf_3 rfl hl (by decide) rfl (fun ls hl => ?_)
  have LP4 : ∀ (n4m : Nat), ∀ (k : Nat) (x : Int32) (g : Nat → Int32) (hk : k ≤ nv), (nv - k < n4m) → ∀ (H : Heap) (locs : List Loc) (ls : Array Slot), PP G (mw G h (oA u 26 g) lt sj) H → va_D A (mw G h (oA u 26 g) lt sj) → va_S A s.heap H locs → lv_has ls 4 [(0, .ref (h 0)), (1, .int (nI ii)), (2, .int x), (3, .int (nI k))] → W p l e (headSpec wsX5_lifeOf ({ frames := 2, cells := 0, slots := 0, locals := 43 })).room s m ([.ref (h 0), .int (nI ii)] : List Value).toArray below meth c H locs 0 0 (MQ below (va_Qi (fun (r : Int32) (v : oS × Int64 × (Nat → Int64)) => ∃ g, v = (oA u 26 g, lt, sj)) (fun v t => PP G (mw G h v.1 v.2.1 v.2.2) t.heap) A) ([.ref (h 0), .int (nI ii)] : List Value).toArray s 0 0 A) (F0 m 4 ls []) := by
    intro n4m
    induction n4m with
    | zero => intro k x g hk hmu H locs ls hP hD hS hl; exact absurd hmu (Nat.not_lt_zero _)
    | succ n4m ih4 =>
      intro k x g hk hmu H locs ls hP hD hS hl
      refine lv_iload_n hx hb dX5_lifeOf_4 rfl (lv_at hl 3 rfl) ?_
      refine lv_aload_n hx hb dX5_lifeOf_5 rfl (lv_at hl 0 rfl) ?_
      refine va_get (D := gD G) (ci := 5) (v := .int (u.1 0)) (C := RX5) (T := TX5) (N := 38) hx hb hts hiX5 hown hK hP 0 rfl rfl 0 (by decide) k91 (fun _ h9 => h9) rfl dX5_lifeOf_6 ?_
      refine topE hnv ?_
      refine lv_icmp_ge (tgt := 41) hx hb dX5_lifeOf_9 (by decide) (fun c9 => ?_) (fun c9 => ?_)
      · skip
        have n9 : nv ≤ k := (nI_leI (a := nv) (b := k) (by omega) (by omega)).mp c9
        refine lv_iload_n hx hb dX5_lifeOf_41 rfl (lv_at hl 2 rfl) ?_
        exact W.iret (v := x) hx hb hr (fun t ht hW => ⟨⟨x, (oA u 26 g, lt, sj), rfl, ⟨_, rfl⟩, show PP G (mw G h (oA u 26 g) lt sj) t.heap by rw [ht]; exact hP⟩, hS.F ht⟩) hS.2.2 dX5_lifeOf_42
      · skip
        have n9 : ¬ (nv ≤ k) := fun q9 => c9 ((nI_leI (a := nv) (b := k) (by omega) (by omega)).mpr q9)
        refine lv_iload_n hx hb dX5_lifeOf_12 rfl (lv_at hl 2 rfl) ?_
        refine lv_aload_n hx hb dX5_lifeOf_13 rfl (lv_at hl 0 rfl) ?_
        refine lv_iload_n hx hb dX5_lifeOf_14 rfl (lv_at hl 1 rfl) ?_
        refine lv_aload_n hx hb dX5_lifeOf_15 rfl (lv_at hl 0 rfl) ?_
        refine lv_iload_n hx hb dX5_lifeOf_16 rfl (lv_at hl 3 rfl) ?_
        refine cXi (As := [.int (nI k)]) (rest := [.int (nI ii), .ref (h 0), .int x]) (S := oS × Int64 × (Nat → Int64)) (wa := mw G h (oA u 26 g) lt sj) (w1 := fun v => mw G h v.1 v.2.1 v.2.2) ⟨hx, hb, hml, hown, hts⟩ (mt_X5_changesOf l G h _ u lt sj g k (by first | assumption | omega) (hparV.le (by omega))) (cwV 1 hts gX5_lifeOf_X5_changesOf rfl rfl rfl ⟨rfl, hd_X5_changesOf⟩ ⟨Nat.le_of_ble_eq_true rfl, Nat.le_of_ble_eq_true rfl⟩) hK hN hP hD hS hA (fun _ => rfl) 0 5 rfl rfl rfl hl.1 rfl (Nat.le_of_ble_eq_true rfl) ⟨Nat.zero_le _, Nat.zero_le _⟩ dX5_lifeOf_17 (fun r17 u17 H locs hw17 hP hD hS => ?_)
        obtain ⟨g17, rfl, rfl⟩ := hw17
        have hP : PP G (mw G h (oA u 26 g17) lt sj) H := hP
        have hD : va_D A (mw G h (oA u 26 g17) lt sj) := hD
        refine cRi (w := mw G h (oA u 26 g17) lt sj) (As := [.int (nI ii), .int (chV (u.2 1) (u.2 2) (u.2 3) (nI k))]) (rest := [.int x]) ⟨hx, hb, hml, hown, hts⟩ (mt_X5_stands l G h (oA u 26 g17) lt sj ii (chV (u.2 1) (u.2 2) (u.2 3) (nI k)) (by first | assumption | omega)) (cwV 2 hts gX5_lifeOf_X5_stands rfl rfl rfl ⟨rfl, hd_X5_stands⟩ ⟨Nat.le_of_ble_eq_true rfl, Nat.le_of_ble_eq_true rfl⟩) hK hN hP 0 5 rfl rfl rfl hl.1 rfl (Nat.le_of_ble_eq_true rfl) ⟨Nat.zero_le _, Nat.zero_le _⟩ dX5_lifeOf_20 (fun r20 hw20 => ?_)
        rcases hw20 with ⟨rfl, hy20⟩ | ⟨rfl, hn20⟩
        · skip
          refine lv_if_eq (tgt := 32) hx hb dX5_lifeOf_23 (by decide) (fun c9 => absurd c9 (by decide)) (fun _ => ?_)
          refine lv_iconst (v := nI 1) hx hb dX5_lifeOf_26 (by decide) ?_
          refine lv_iload_n hx hb dX5_lifeOf_27 rfl (lv_at hl 3 rfl) ?_
          refine lv_ishl hx hb dX5_lifeOf_28 ?_
          refine lv_goto (tgt := 33) hx hb dX5_lifeOf_29 (by decide) ?_
          refine lv_ior hx hb dX5_lifeOf_33 ?_
          refine lv_istore_n (lv' := [(2, .int (x ||| ((nI 1) <<< ((nI k) &&& 31)))), (0, .ref (h 0)), (1, .int (nI ii)), (3, .int (nI k))]) hx hb dX5_lifeOf_34 rfl hl (by decide) rfl (fun ls hl => ?_)
          refine lv_iinc (v := nI (k + 1)) (lv' := [(3, .int (nI (k + 1))), (2, .int (x ||| ((nI 1) <<< ((nI k) &&& 31)))), (0, .ref (h 0)), (1, .int (nI ii))]) hx hb dX5_lifeOf_35 hl (k := 3) rfl (nI_1 k) (by decide) rfl (fun ls hl => ?_)
          refine lv_goto (tgt := 4) hx hb dX5_lifeOf_38 (by decide) ?_
          exact ih4 (k + 1) (x ||| ((nI 1) <<< ((nI k) &&& 31))) g17 (by first | assumption | omega) (by omega) _ _ ls hP hD hS (lv_sub hl [2, 3, 1, 0] rfl)
        · skip
          refine lv_if_eq (tgt := 32) hx hb dX5_lifeOf_23 (by decide) (fun _ => ?_) (fun c9 => absurd (by decide) c9)
          refine lv_iconst (v := (0 : Int32)) hx hb dX5_lifeOf_32 (by decide) ?_
          refine lv_ior hx hb dX5_lifeOf_33 ?_
          refine lv_istore_n (lv' := [(2, .int (x ||| (0 : Int32))), (0, .ref (h 0)), (1, .int (nI ii)), (3, .int (nI k))]) hx hb dX5_lifeOf_34 rfl hl (by decide) rfl (fun ls hl => ?_)
          refine lv_iinc (v := nI (k + 1)) (lv' := [(3, .int (nI (k + 1))), (2, .int (x ||| (0 : Int32))), (0, .ref (h 0)), (1, .int (nI ii))]) hx hb dX5_lifeOf_35 hl (k := 3) rfl (nI_1 k) (by decide) rfl (fun ls hl => ?_)
          refine lv_goto (tgt := 4) hx hb dX5_lifeOf_38 (by decide) ?_
          exact ih4 (k + 1) (x ||| (0 : Int32)) g17 (by first | assumption | omega) (by omega) _ _ ls hP hD hS (lv_sub hl [2, 3, 1, 0] rfl)
  exact LP4 (nv - 0 + 1) 0 (nI 0) g0 (by first | assumption | omega) (Nat.lt_succ_self _) _ _ ls hP hD hS (lv_sub hl [2, 3, 1, 0] rfl)
set_option maxHeartbeats 1000000 in
set_option maxRecDepth 100000 in
theorem mt_X5_gone (l : Launch) (G : gG) (h : Nat → Nat) (sz : Nat) (u : oS) (lt : Int64) (sj : Nat → Int64) (g0 : Nat → Int32) (nv : Nat) (nl : Nat) (hnv : u.1 0 = nI nv) (hnl : u.1 4 = nI nl) (hnv24 : nv ≤ 24) (hnl120 : nl ≤ 120) (hparV : parOK (u.2 1) nv) : Met l yX5_gone wsX5_gone ({ frames := 3, cells := 0, slots := 0, locals := 66 }) (preW G (mw G h (oA u 26 g0) lt sj) sz [.ref (h 0)]) (va_Qi (fun (r : Int32) (v : oS × Int64 × (Nat → Int64)) => ∃ g, v = (oA u 26 g, lt, sj)) (fun v t => PP G (mw G h v.1 v.2.1 v.2.2) t.heap) (va_A (mw G h (oA u 26 g0) lt sj) sz)) 0 0 (va_A (mw G h (oA u 26 g0) lt sj) sz) := by
  refine Met.ofW (cc := cX5_gone) (maxL := 3) (ret := (some .int)) (by decide) rfl ?_
  intro p e s m args below meth c s₁ B hml hv
  obtain ⟨ha, hsz, hP, hK, hN, hD0⟩ := hv
  subst ha
  have hx := B.exec
  have hb := B.bytes
  have hr := B.returns
  have hts := atoms_spec (ws := wsX5_gone) B.pre
  have hown : s.vm.findClass RX5 = some m.cls := findClass_of_methodNamed B.named
  have hlocks := B.notSynchronized
  subst hsz
  have hD := hD0.self (sz := s.heap.size)
  generalize hAe : va_A (mw G h (oA u 26 g0) lt sj) s.heap.size = A at hD ⊢
  have hA : ∀ q : Nat, s.heap.size ≤ q → A q := fun q h => by rw [← hAe]; exact Or.inr h
  clear hAe hD0
  have hS : va_S A s.heap s.heap [] := va_S.rf
  have hiX5 : ∀ w ∈ wsX50, w ∈ wsX5_gone := fun w h9 => List.mem_cons_of_mem _ (List.mem_append_right _ (h9))
  have k175 := hts (.fieldLink RX5 175 "WovenHistoryModel" "lines" "I") (List.mem_of_getElem? (i := 1) rfl)
  have hl := lv_entry ([.ref (h 0)]) (n := 3) (Nat.le_of_ble_eq_true rfl)
  rw [lg_entry_eq]
  generalize (lg_sl ([.ref (h 0)]) ++ List.replicate (3 - (lg_sl ([.ref (h 0)])).length) Slot.unset).toArray = ls at hl ⊢
  have hl : lv_has ls 3 [(0, .ref (h 0))] := hl
  refine lv_iconst (v := nI 0) hx hb dX5_gone_0 (by decide) ?_
  refine lv_istore_n (lv' := [(1, .int (nI 0)), (0, .ref (h 0))]) hx hb dX5_gone_1 rfl hl (by decide) rfl (fun ls hl => ?_)
  refine lv_iconst (v := nI 0) hx hb dX5_gone_2 (by decide) ?_
  refine lv_istore_n (lv' := [(2, .int (nI 0)), (1, .int (nI 0)), (0, .ref (h 0))]) hx hb dX5_gone_3 rfl hl (by decide) rfl (fun ls hl => ?_)
  have LP4 : ∀ (n4m : Nat), ∀ (k : Nat) (j : Nat) (g : Nat → Int32) (hk : k ≤ nl) (hj2 : j ≤ k), (nl - k < n4m) → ∀ (H : Heap) (locs : List Loc) (ls : Array Slot), PP G (mw G h (oA u 26 g) lt sj) H → va_D A (mw G h (oA u 26 g) lt sj) → va_S A s.heap H locs → lv_has ls 3 [(0, .ref (h 0)), (1, .int (nI j)), (2, .int (nI k))] → W p l e (headSpec wsX5_gone ({ frames := 3, cells := 0, slots := 0, locals := 66 })).room s m ([.ref (h 0)] : List Value).toArray below meth c H locs 0 0 (MQ below (va_Qi (fun (r : Int32) (v : oS × Int64 × (Nat → Int64)) => ∃ g, v = (oA u 26 g, lt, sj)) (fun v t => PP G (mw G h v.1 v.2.1 v.2.2) t.heap) A) ([.ref (h 0)] : List Value).toArray s 0 0 A) (F0 m 4 ls []) := by
    intro n4m
    induction n4m with
    | zero => intro k j g hk hj2 hmu H locs ls hP hD hS hl; exact absurd hmu (Nat.not_lt_zero _)
    | succ n4m ih4 =>
      intro k j g hk hj2 hmu H locs ls hP hD hS hl
      refine lv_iload_n hx hb dX5_gone_4 rfl (lv_at hl 2 rfl) ?_
      refine lv_aload_n hx hb dX5_gone_5 rfl (lv_at hl 0 rfl) ?_
      refine va_get (D := gD G) (ci := 5) (v := .int (u.1 4)) (C := RX5) (T := TX5) (N := 38) hx hb hts hiX5 hown hK hP 0 rfl rfl 4 (by decide) k175 (fun _ h9 => h9) rfl dX5_gone_6 ?_
      refine topE hnl ?_
      refine lv_icmp_ge (tgt := 34) hx hb dX5_gone_9 (by decide) (fun c9 => ?_) (fun c9 => ?_)
      · skip
        have n9 : nl ≤ k := (nI_leI (a := nl) (b := k) (by omega) (by omega)).mp c9
        refine lv_iload_n hx hb dX5_gone_34 rfl (lv_at hl 1 rfl) ?_
        exact W.iret (v := nI j) hx hb hr (fun t ht hW => ⟨⟨nI j, (oA u 26 g, lt, sj), rfl, ⟨_, rfl⟩, show PP G (mw G h (oA u 26 g) lt sj) t.heap by rw [ht]; exact hP⟩, hS.F ht⟩) hS.2.2 dX5_gone_35
      · skip
        have n9 : ¬ (nl ≤ k) := fun q9 => c9 ((nI_leI (a := nl) (b := k) (by omega) (by omega)).mpr q9)
        refine lv_iload_n hx hb dX5_gone_12 rfl (lv_at hl 1 rfl) ?_
        refine lv_aload_n hx hb dX5_gone_13 rfl (lv_at hl 0 rfl) ?_
        refine lv_iload_n hx hb dX5_gone_14 rfl (lv_at hl 2 rfl) ?_
        refine cXi (As := [.int (nI k)]) (rest := [.int (nI j)]) (S := oS × Int64 × (Nat → Int64)) (wa := mw G h (oA u 26 g) lt sj) (w1 := fun v => mw G h v.1 v.2.1 v.2.2) ⟨hx, hb, hml, hown, hts⟩ (mt_X5_lifeOf l G h _ u lt sj g nv k (hnv) (by first | assumption | omega) (by first | assumption | omega) (by first | assumption | omega)) (cwV 1 hts gX5_gone_X5_lifeOf rfl rfl rfl ⟨rfl, hd_X5_lifeOf⟩ ⟨Nat.le_of_ble_eq_true rfl, Nat.le_of_ble_eq_true rfl⟩) hK hN hP hD hS hA (fun _ => rfl) 0 5 rfl rfl rfl hl.1 rfl (Nat.le_of_ble_eq_true rfl) ⟨Nat.zero_le _, Nat.zero_le _⟩ dX5_gone_15 (fun r15 u15 H locs hw15 hP hD hS => ?_)
        obtain ⟨g15, rfl⟩ := hw15
        have hP : PP G (mw G h (oA u 26 g15) lt sj) H := hP
        have hD : va_D A (mw G h (oA u 26 g15) lt sj) := hD
        refine lv_if_ne (tgt := 25) hx hb dX5_gone_18 (by decide) (fun c18 => ?_) (fun c18 => ?_)
        · skip
          refine lv_iconst (v := nI 0) hx hb dX5_gone_25 (by decide) ?_
          refine lv_iadd hx hb dX5_gone_26 ?_
          refine topE (y := nI (j + 0)) (nI_add j 0) ?_
          refine lv_istore_n (lv' := [(1, .int (nI (j + 0))), (0, .ref (h 0)), (2, .int (nI k))]) hx hb dX5_gone_27 rfl hl (by decide) rfl (fun ls hl => ?_)
          refine lv_iinc (v := nI (k + 1)) (lv' := [(2, .int (nI (k + 1))), (1, .int (nI (j + 0))), (0, .ref (h 0))]) hx hb dX5_gone_28 hl (k := 2) rfl (nI_1 k) (by decide) rfl (fun ls hl => ?_)
          refine lv_goto (tgt := 4) hx hb dX5_gone_31 (by decide) ?_
          exact ih4 (k + 1) (j + 0) g15 (by first | assumption | omega) (by first | assumption | omega) (by omega) _ _ ls hP hD hS (lv_sub hl [2, 1, 0] rfl)
        · skip
          refine lv_iconst (v := nI 1) hx hb dX5_gone_21 (by decide) ?_
          refine lv_goto (tgt := 26) hx hb dX5_gone_22 (by decide) ?_
          refine lv_iadd hx hb dX5_gone_26 ?_
          refine topE (y := nI (j + 1)) (nI_add j 1) ?_
          refine lv_istore_n (lv' := [(1, .int (nI (j + 1))), (0, .ref (h 0)), (2, .int (nI k))]) hx hb dX5_gone_27 rfl hl (by decide) rfl (fun ls hl => ?_)
          refine lv_iinc (v := nI (k + 1)) (lv' := [(2, .int (nI (k + 1))), (1, .int (nI (j + 1))), (0, .ref (h 0))]) hx hb dX5_gone_28 hl (k := 2) rfl (nI_1 k) (by decide) rfl (fun ls hl => ?_)
          refine lv_goto (tgt := 4) hx hb dX5_gone_31 (by decide) ?_
          exact ih4 (k + 1) (j + 1) g15 (by first | assumption | omega) (by first | assumption | omega) (by omega) _ _ ls hP hD hS (lv_sub hl [2, 1, 0] rfl)
  exact LP4 (nl - 0 + 1) 0 0 g0 (by first | assumption | omega) (by first | assumption | omega) (Nat.lt_succ_self _) _ _ ls hP hD hS (lv_sub hl [2, 1, 0] rfl)
