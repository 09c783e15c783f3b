set_option maxHeartbeats 1000000 in
set_option maxRecDepth 100000 in
theorem mt_X5_bothOf (l : Launch) (G : gG) (h : Nat → Nat) (u : oS) (lt : Int64) (sj : Nat → Int64) (nl : Nat) (a : Int32) (b : Int32) (hnl : u.1 4 = nI nl) (hnl120 : nl ≤ 120) : Met l yX5_bothOf wsX5_bothOf ({ frames := 2, cells := 0, slots := 0, locals := 43 }) (preR G (mw G h u lt sj) [.ref (h 0), .int a, .int b]) (vp_Si (fun r : Int32 => r = nI (cnt (fun i => sdb (u.2 6) (u.2 7) a i && sdb (u.2 6) (u.2 7) b i) nl))) 0 0 (fun _ => False) := by
  refine Met.ofW (cc := cX5_bothOf) (maxL := 5) (ret := (some .int)) (by decide) rfl ?_
  intro p e s m args below meth c s₁ B hml hv
  obtain ⟨ha, hP, hK, hN⟩ := hv
  subst ha
  have hx := B.exec
  have hb := B.bytes
  have hr := B.returns
  have hts := atoms_spec (ws := wsX5_bothOf) B.pre
  have hown : s.vm.findClass RX5 = some m.cls := findClass_of_methodNamed B.named
  have hlocks := B.notSynchronized
  have hiX5 : ∀ w ∈ wsX50, w ∈ wsX5_bothOf := fun w h9 => List.mem_cons_of_mem _ (List.mem_append_right _ (h9))
  have k175 := hts (.fieldLink RX5 175 "WovenHistoryModel" "lines" "I") (List.mem_of_getElem? (i := 1) rfl)
  have hl := lv_entry ([.ref (h 0), .int a, .int b]) (n := 5) (Nat.le_of_ble_eq_true rfl)
  rw [lg_entry_eq]
  generalize (lg_sl ([.ref (h 0), .int a, .int b]) ++ List.replicate (5 - (lg_sl ([.ref (h 0), .int a, .int b])).length) Slot.unset).toArray = ls at hl ⊢
  have hl : lv_has ls 5 [(0, .ref (h 0)), (1, .int a), (2, .int b)] := hl
  refine lv_iconst (v := nI 0) hx hb dX5_bothOf_0 (by decide) ?_
  refine lv_istore_n (lv' := [(3, .int (nI 0)), (0, .ref (h 0)), (1, .int a), (2, .int b)]) hx hb dX5_bothOf_1 rfl hl (by decide) rfl (fun ls hl => ?_)
  refine lv_iconst (v := nI 0) hx hb dX5_bothOf_2 (by decide) ?_
  refine lv_istore (lv' := [(4, .int (nI 0)), (3, .int (nI 0)), (0, .ref (h 0)), (1, .int a), (2, .int b)]) hx hb dX5_bothOf_3 hl (by decide) rfl (fun ls hl => ?_)
  have LP5 : ∀ (n5m : Nat), ∀ (k : Nat) (j : Nat) (hk : k ≤ nl) (hj : j = cnt (fun i => sdb (u.2 6) (u.2 7) a i && sdb (u.2 6) (u.2 7) b i) k) (hj2 : j ≤ k), (nl - k < n5m) → ∀ (ls : Array Slot), lv_has ls 5 [(0, .ref (h 0)), (1, .int a), (2, .int b), (3, .int (nI j)), (4, .int (nI k))] → W p l e (headSpec wsX5_bothOf ({ frames := 2, cells := 0, slots := 0, locals := 43 })).room s m ([.ref (h 0), .int a, .int b] : List Value).toArray below meth c s.heap [] 0 0 (MQ below (vp_Si (fun r : Int32 => r = nI (cnt (fun i => sdb (u.2 6) (u.2 7) a i && sdb (u.2 6) (u.2 7) b i) nl))) ([.ref (h 0), .int a, .int b] : List Value).toArray s 0 0 (fun _ => False)) (F0 m 5 ls []) := by
    intro n5m
    induction n5m with
    | zero => intro k j hk hj hj2 hmu ls hl; exact absurd hmu (Nat.not_lt_zero _)
    | succ n5m ih5 =>
      intro k j hk hj hj2 hmu ls hl
      refine lv_iload hx hb dX5_bothOf_5 (lv_at hl 4 rfl) ?_
      refine lv_aload_n hx hb dX5_bothOf_7 rfl (lv_at hl 0 rfl) ?_
      refine va_get (D := gD G) (ci := 5) (v := .int (u.1 4)) (C := RX5) (T := TX5) (N := 38) hx hb hts hiX5 hown hK hP 0 rfl rfl 4 (by decide) k175 (fun _ h9 => h9) rfl dX5_bothOf_8 ?_
      refine topE hnl ?_
      refine lv_icmp_ge (tgt := 48) hx hb dX5_bothOf_11 (by decide) (fun c11 => ?_) (fun c11 => ?_)
      · skip
        have n11 : nl ≤ k := (nI_leI (a := nl) (b := k) (by omega) (by omega)).mp c11
        refine lv_iload_n hx hb dX5_bothOf_48 rfl (lv_at hl 3 rfl) ?_
        exact W.iret (v := nI j) hx hb hr (fun t ht hW => ⟨nI j, rfl, by rw [hj, show k = nl by omega], ht⟩) (fun _ h9 => by cases h9) dX5_bothOf_49
      · skip
        have n11 : ¬ (nl ≤ k) := fun q9 => c11 ((nI_leI (a := nl) (b := k) (by omega) (by omega)).mpr q9)
        refine lv_iload_n hx hb dX5_bothOf_14 rfl (lv_at hl 3 rfl) ?_
        refine lv_aload_n hx hb dX5_bothOf_15 rfl (lv_at hl 0 rfl) ?_
        refine lv_iload hx hb dX5_bothOf_16 (lv_at hl 4 rfl) ?_
        refine lv_iload_n hx hb dX5_bothOf_18 rfl (lv_at hl 1 rfl) ?_
        refine cRi (w := mw G h u lt sj) (As := [.int (nI k), .int a]) (rest := [.int (nI j)]) ⟨hx, hb, hml, hown, hts⟩ (mt_X5_stands l G h u lt sj k a (by first | assumption | omega)) (cwV 2 hts gX5_bothOf_X5_stands rfl rfl rfl ⟨rfl, hd_X5_stands⟩ ⟨Nat.le_of_ble_eq_true rfl, Nat.le_of_ble_eq_true rfl⟩) hK hN hP 0 5 rfl rfl rfl hl.1 rfl (Nat.le_of_ble_eq_true rfl) ⟨Nat.zero_le _, Nat.zero_le _⟩ dX5_bothOf_19 (fun r19 hw19 => ?_)
        rcases hw19 with ⟨rfl, hy19⟩ | ⟨rfl, hn19⟩
        · skip
          refine lv_if_eq (tgt := 39) hx hb dX5_bothOf_22 (by decide) (fun c9 => absurd c9 (by decide)) (fun _ => ?_)
          refine lv_aload_n hx hb dX5_bothOf_25 rfl (lv_at hl 0 rfl) ?_
          refine lv_iload hx hb dX5_bothOf_26 (lv_at hl 4 rfl) ?_
          refine lv_iload_n hx hb dX5_bothOf_28 rfl (lv_at hl 2 rfl) ?_
          refine cRi (w := mw G h u lt sj) (As := [.int (nI k), .int b]) (rest := [.int (nI j)]) ⟨hx, hb, hml, hown, hts⟩ (mt_X5_stands l G h u lt sj k b (by first | assumption | omega)) (cwV 2 hts gX5_bothOf_X5_stands rfl rfl rfl ⟨rfl, hd_X5_stands⟩ ⟨Nat.le_of_ble_eq_true rfl, Nat.le_of_ble_eq_true rfl⟩) hK hN hP 0 5 rfl rfl rfl hl.1 rfl (Nat.le_of_ble_eq_true rfl) ⟨Nat.zero_le _, Nat.zero_le _⟩ dX5_bothOf_29 (fun r29 hw29 => ?_)
          rcases hw29 with ⟨rfl, hy29⟩ | ⟨rfl, hn29⟩
          · skip
            refine lv_if_eq (tgt := 39) hx hb dX5_bothOf_32 (by decide) (fun c9 => absurd c9 (by decide)) (fun _ => ?_)
            refine lv_iconst (v := nI 1) hx hb dX5_bothOf_35 (by decide) ?_
            refine lv_goto (tgt := 40) hx hb dX5_bothOf_36 (by decide) ?_
            refine lv_iadd hx hb dX5_bothOf_40 ?_
            refine topE (y := nI (j + 1)) (nI_add j 1) ?_
            refine lv_istore_n (lv' := [(3, .int (nI (j + 1))), (0, .ref (h 0)), (1, .int a), (2, .int b), (4, .int (nI k))]) hx hb dX5_bothOf_41 rfl hl (by decide) rfl (fun ls hl => ?_)
            refine lv_iinc (v := nI (k + 1)) (lv' := [(4, .int (nI (k + 1))), (3, .int (nI (j + 1))), (0, .ref (h 0)), (1, .int a), (2, .int b)]) hx hb dX5_bothOf_42 hl (k := 4) rfl (nI_1 k) (by decide) rfl (fun ls hl => ?_)
            refine lv_goto (tgt := 5) hx hb dX5_bothOf_45 (by decide) ?_
            exact ih5 (k + 1) (j + 1) (by first | assumption | omega) (by first | rfl | omega | (rw [cnt_t (by simp only [*, Bool.and_self])]; omega) | (rw [cnt_f (by simp only [*, Bool.and_false, Bool.false_and])]; omega)) (by first | assumption | omega) (by omega) ls (lv_sub hl [2, 3, 4, 1, 0] rfl)
          · skip
            refine lv_if_eq (tgt := 39) hx hb dX5_bothOf_32 (by decide) (fun _ => ?_) (fun c9 => absurd (by decide) c9)
            refine lv_iconst (v := nI 0) hx hb dX5_bothOf_39 (by decide) ?_
            refine lv_iadd hx hb dX5_bothOf_40 ?_
            refine topE (y := nI (j + 0)) (nI_add j 0) ?_
            refine lv_istore_n (lv' := [(3, .int (nI (j + 0))), (0, .ref (h 0)), (1, .int a), (2, .int b), (4, .int (nI k))]) hx hb dX5_bothOf_41 rfl hl (by decide) rfl (fun ls hl => ?_)
            refine lv_iinc (v := nI (k + 1)) (lv' := [(4, .int (nI (k + 1))), (3, .int (nI (j + 0))), (0, .ref (h 0)), (1, .int a), (2, .int b)]) hx hb dX5_bothOf_42 hl (k := 4) rfl (nI_1 k) (by decide) rfl (fun ls hl => ?_)
            refine lv_goto (tgt := 5) hx hb dX5_bothOf_45 (by decide) ?_
            exact ih5 (k + 1) (j + 0) (by first | assumption | omega) (by first | rfl | omega | (rw [cnt_t (by simp only [*, Bool.and_self])]; omega) | (rw [cnt_f (by simp only [*, Bool.and_false, Bool.false_and])]; omega)) (by first | assumption | omega) (by omega) ls (lv_sub hl [2, 3, 4, 1, 0] rfl)
        · skip
          refine lv_if_eq (tgt := 39) hx hb dX5_bothOf_22 (by decide) (fun _ => ?_) (fun c9 => absurd (by decide) c9)
          refine lv_iconst (v := nI 0) hx hb dX5_bothOf_39 (by decide) ?_
          refine lv_iadd hx hb dX5_bothOf_40 ?_
          refine topE (y := nI (j + 0)) (nI_add j 0) ?_
          refine lv_istore_n (lv' := [(3, .int (nI (j + 0))), (0, .ref (h 0)), (1, .int a), (2, .int b), (4, .int (nI k))]) hx hb dX5_bothOf_41 rfl hl (by decide) rfl (fun ls hl => ?_)
          refine lv_iinc (v := nI (k + 1)) (lv' := [(4, .int (nI (k + 1))), (3, .int (nI (j + 0))), (0, .ref (h 0)), (1, .int a), (2, .int b)]) hx hb dX5_bothOf_42 hl (k := 4) rfl (nI_1 k) (by decide) rfl (fun ls hl => ?_)
          refine lv_goto (tgt := 5) hx hb dX5_bothOf_45 (by decide) ?_
          exact ih5 (k + 1) (j + 0) (by first | assumption | omega) (by first | rfl | omega | (rw [cnt_t (by simp only [*, Bool.and_self])]; omega) | (rw [cnt_f (by simp only [*, Bool.and_false, Bool.false_and])]; omega)) (by first | assumption | omega) (by omega) ls (lv_sub hl [2, 3, 4, 1, 0] rfl)
  exact LP5 (nl - 0 + 1) 0 0 (by first | assumption | omega) (by first | rfl | omega | (rw [cnt_t (by simp only [*, Bool.and_self])]; omega) | (rw [cnt_f (by simp only [*, Bool.and_false, Bool.false_and])]; omega)) (by first | assumption | omega) (Nat.lt_succ_self _) ls (lv_sub hl [2, 3, 4, 1, 0] rfl)
set_option maxHeartbeats 1000000 in
set_option maxRecDepth 100000 in
theorem mt_X5_block (l : Launch) (G : gG) (h : Nat → Nat) (u : oS) (lt : Int64) (sj : Nat → Int64) (nl : Nat) (b : Int32) (what : Int32) (hnl : u.1 4 = nI nl) (hnl120 : nl ≤ 120) : Met l yX5_block wsX5_block ({ frames := 2, cells := 0, slots := 0, locals := 43 }) (preR G (mw G h u lt sj) [.ref (h 0), .int b, .int what]) (vp_Si (fun r : Int32 => True)) 0 0 (fun _ => False) := by
  refine Met.ofW (cc := cX5_block) (maxL := 6) (ret := (some .int)) (by decide) rfl ?_
  intro p e s m args below meth c s₁ B hml hv
  obtain ⟨ha, hP, hK, hN⟩ := hv
  subst ha
  have hx := B.exec
  have hb := B.bytes
  have hr := B.returns
  have hts := atoms_spec (ws := wsX5_block) B.pre
  have hown : s.vm.findClass RX5 = some m.cls := findClass_of_methodNamed B.named
  have hlocks := B.notSynchronized
  have hiX5 : ∀ w ∈ wsX50, w ∈ wsX5_block := fun w h9 => List.mem_cons_of_mem _ (List.mem_append_right _ (h9))
  have k175 := hts (.fieldLink RX5 175 "WovenHistoryModel" "lines" "I") (List.mem_of_getElem? (i := 2) rfl)
  have hl := lv_entry ([.ref (h 0), .int b, .int what]) (n := 6) (Nat.le_of_ble_eq_true rfl)
  rw [lg_entry_eq]
  generalize (lg_sl ([.ref (h 0), .int b, .int what]) ++ List.replicate (6 - (lg_sl ([.ref (h 0), .int b, .int what])).length) Slot.unset).toArray = ls at hl ⊢
  have hl : lv_has ls 6 [(0, .ref (h 0)), (1, .int b), (2, .int what)] := hl
  refine lv_iload_n hx hb dX5_block_0 rfl (lv_at hl 2 rfl) ?_
  refine lv_i2l (v := what.toInt64) hx hb dX5_block_1 rfl ?_
  refine lv_lconst (v := 0) hx hb dX5_block_2 (by decide) ?_
  refine lv_lconst (v := 1) hx hb dX5_block_3 (by decide) ?_
  refine cSi (As := [.long what.toInt64, .long 0, .long 1]) (rest := []) ⟨hx, hb, hml, hown, hts⟩ (mt_X5_in l what.toInt64 0 1) (va_cwS 3 hts gX5_block_X5_in rfl rfl rfl hd_X5_in ⟨Nat.le_of_ble_eq_true rfl, Nat.le_of_ble_eq_true rfl⟩) rfl hl.1 rfl (Nat.le_of_ble_eq_true rfl) ⟨Nat.zero_le _, Nat.zero_le _⟩ dX5_block_4 (fun r4 hw4 => ?_)
  rcases hw4 with ⟨rfl, ha4, hb4⟩ | ⟨rfl, hn4⟩
  · skip
    refine lv_if_ne (tgt := 13) hx hb dX5_block_7 (by decide) (fun _ => ?_) (fun c9 => absurd c9 (by decide))
    refine lv_iload_n hx hb dX5_block_13 rfl (lv_at hl 1 rfl) ?_
    refine lv_i2l (v := b.toInt64) hx hb dX5_block_14 rfl ?_
    refine lv_lconst (v := 0) hx hb dX5_block_15 (by decide) ?_
    refine lv_aload_n hx hb dX5_block_16 rfl (lv_at hl 0 rfl) ?_
    refine cRi (w := mw G h u lt sj) (As := []) (rest := [.long 0, .long b.toInt64]) ⟨hx, hb, hml, hown, hts⟩ (mt_X5_blocks l G h u lt sj nl (hnl) (by first | assumption | omega)) (cwV 0 hts gX5_block_X5_blocks rfl rfl rfl ⟨rfl, hd_X5_blocks⟩ ⟨Nat.le_of_ble_eq_true rfl, Nat.le_of_ble_eq_true rfl⟩) hK hN hP 0 5 rfl rfl rfl hl.1 rfl (Nat.le_of_ble_eq_true rfl) ⟨Nat.zero_le _, Nat.zero_le _⟩ dX5_block_17 (fun r17 hw17 => ?_)
    obtain rfl := hw17
    have hc17 := cnt_le (nbb (u.2 6) (u.2 7)) nl
    refine lv_iconst (v := nI 1) hx hb dX5_block_20 (by decide) ?_
    refine lv_isub hx hb dX5_block_21 ?_
    refine lv_i2l (v := ((nI (cnt (nbb (u.2 6) (u.2 7)) nl)) - (nI 1)).toInt64) hx hb dX5_block_22 rfl ?_
    refine cSi (As := [.long b.toInt64, .long 0, .long (((nI (cnt (nbb (u.2 6) (u.2 7)) nl)) - (nI 1)).toInt64)]) (rest := []) ⟨hx, hb, hml, hown, hts⟩ (mt_X5_in l b.toInt64 0 (((nI (cnt (nbb (u.2 6) (u.2 7)) nl)) - (nI 1)).toInt64)) (va_cwS 3 hts gX5_block_X5_in rfl rfl rfl hd_X5_in ⟨Nat.le_of_ble_eq_true rfl, Nat.le_of_ble_eq_true rfl⟩) rfl hl.1 rfl (Nat.le_of_ble_eq_true rfl) ⟨Nat.zero_le _, Nat.zero_le _⟩ dX5_block_23 (fun r23 hw23 => ?_)
    rcases hw23 with ⟨rfl, ha23, hb23⟩ | ⟨rfl, hn23⟩
    · skip
      obtain ⟨b1, hb1, rfl⟩ := isv_y (by omega) ha23 hb23
      refine lv_if_ne (tgt := 31) hx hb dX5_block_26 (by decide) (fun _ => ?_) (fun c9 => absurd c9 (by decide))
      refine lv_iload_n hx hb dX5_block_31 rfl (lv_at hl 1 rfl) ?_
      refine lv_istore_n (lv' := [(3, .int (nI b1)), (0, .ref (h 0)), (1, .int (nI b1)), (2, .int what)]) hx hb dX5_block_32 rfl hl (by decide) rfl (fun ls hl => ?_)
      refine lv_iconst (v := nI 0) hx hb dX5_block_33 (by decide) ?_
      refine lv_istore (lv' := [(4, .int (nI 0)), (3, .int (nI b1)), (0, .ref (h 0)), (1, .int (nI b1)), (2, .int what)]) hx hb dX5_block_34 hl (by decide) rfl (fun ls hl => ?_)
      have LP36 : ∀ (n36m : Nat), ∀ (ll : Nat) (k : Nat) (hll : ll + cnt (nbb (u.2 6) (u.2 7)) k = b1), (nl - k < n36m) → ∀ (ls : Array Slot), lv_has ls 6 [(0, .ref (h 0)), (2, .int what), (3, .int (nI ll)), (4, .int (nI k))] → W p l e (headSpec wsX5_block ({ frames := 2, cells := 0, slots := 0, locals := 43 })).room s m ([.ref (h 0), .int (nI b1), .int what] : List Value).toArray below meth c s.heap [] 0 0 (MQ below (vp_Si (fun r : Int32 => True)) ([.ref (h 0), .int (nI b1), .int what] : List Value).toArray s 0 0 (fun _ => False)) (F0 m 36 ls []) := by
        intro n36m
        induction n36m with
        | zero => intro ll k hll hmu ls hl; exact absurd hmu (Nat.not_lt_zero _)
        | succ n36m ih36 =>
          intro ll k hll hmu ls hl
          refine lv_aload_n hx hb dX5_block_36 rfl (lv_at hl 0 rfl) ?_
          have hk36 : k < nl := cnt_lt (p := nbb (u.2 6) (u.2 7)) (by omega)
          refine lv_iload hx hb dX5_block_37 (lv_at hl 3 rfl) ?_
          refine cRi (w := mw G h u lt sj) (As := [.int (nI k)]) (rest := []) ⟨hx, hb, hml, hown, hts⟩ (mt_X5_isNewBlock l G h u lt sj k (by first | assumption | omega)) (cwV 1 hts gX5_block_X5_isNewBlock rfl rfl rfl ⟨rfl, hd_X5_isNewBlock⟩ ⟨Nat.le_of_ble_eq_true rfl, Nat.le_of_ble_eq_true rfl⟩) hK hN hP 0 5 rfl rfl rfl hl.1 rfl (Nat.le_of_ble_eq_true rfl) ⟨Nat.zero_le _, Nat.zero_le _⟩ dX5_block_39 (fun r39 hw39 => ?_)
          rcases hw39 with ⟨rfl, hy39⟩ | ⟨rfl, hn39⟩
          · skip
            refine lv_if_eq (tgt := 49) hx hb dX5_block_42 (by decide) (fun c9 => absurd c9 (by decide)) (fun _ => ?_)
            refine lv_iload_n hx hb dX5_block_45 rfl (lv_at hl 2 rfl) ?_
            refine lv_if_le (tgt := 72) hx hb dX5_block_46 (by decide) (fun c46 => ?_) (fun c46 => ?_)
            · skip
              have n46 : ll ≤ 0 := (nI_leI (a := ll) (b := 0) (by omega) (by omega)).mp c46
              refine lv_iconst (v := nI 1) hx hb dX5_block_72 (by decide) ?_
              refine lv_istore (lv' := [(5, .int (nI 1)), (0, .ref (h 0)), (2, .int what), (3, .int (nI ll)), (4, .int (nI k))]) hx hb dX5_block_73 hl (by decide) rfl (fun ls hl => ?_)
              have LP75 : ∀ (n75m : Nat), ∀ (mm : Nat) (hm : mm ≤ nl + 1), (nl + 1 - mm < n75m) → ∀ (ls : Array Slot), lv_has ls 6 [(0, .ref (h 0)), (2, .int what), (4, .int (nI k)), (5, .int (nI mm))] → W p l e (headSpec wsX5_block ({ frames := 2, cells := 0, slots := 0, locals := 43 })).room s m ([.ref (h 0), .int (nI b1), .int what] : List Value).toArray below meth c s.heap [] 0 0 (MQ below (vp_Si (fun r : Int32 => True)) ([.ref (h 0), .int (nI b1), .int what] : List Value).toArray s 0 0 (fun _ => False)) (F0 m 75 ls []) := by
                intro n75m
                induction n75m with
                | zero => intro mm hm hmu ls hl; exact absurd hmu (Nat.not_lt_zero _)
                | succ n75m ih75 =>
                  intro mm hm hmu ls hl
                  refine lv_iload hx hb dX5_block_75 (lv_at hl 2 rfl) ?_
                  refine lv_iload hx hb dX5_block_77 (lv_at hl 3 rfl) ?_
                  refine lv_iadd hx hb dX5_block_79 ?_
                  refine topE (y := nI (k + mm)) (nI_add k mm) ?_
                  refine lv_aload_n hx hb dX5_block_80 rfl (lv_at hl 0 rfl) ?_
                  refine va_get (D := gD G) (ci := 5) (v := .int (u.1 4)) (C := RX5) (T := TX5) (N := 38) hx hb hts hiX5 hown hK hP 0 rfl rfl 4 (by decide) k175 (fun _ h9 => h9) rfl dX5_block_81 ?_
                  refine topE hnl ?_
                  refine lv_icmp_ge (tgt := 105) hx hb dX5_block_84 (by decide) (fun c84 => ?_) (fun c84 => ?_)
                  · skip
                    have n84 : nl ≤ (k + mm) := (nI_leI (a := nl) (b := k + mm) (by omega) (by omega)).mp c84
                    refine lv_iload_n hx hb dX5_block_105 rfl (lv_at hl 1 rfl) ?_
                    refine lv_if_ne (tgt := 114) hx hb dX5_block_106 (by decide) (fun c106 => ?_) (fun c106 => ?_)
                    · skip
                      refine lv_iload hx hb dX5_block_114 (lv_at hl 3 rfl) ?_
                      exact W.iret (v := nI mm) hx hb hr (fun t ht hW => ⟨nI mm, rfl, by first | rfl | trivial | omega | assumption, ht⟩) (fun _ h9 => by cases h9) dX5_block_116
                    · skip
                      refine lv_iload hx hb dX5_block_109 (lv_at hl 2 rfl) ?_
                      refine lv_goto (tgt := 116) hx hb dX5_block_111 (by decide) ?_
                      exact W.iret (v := nI k) hx hb hr (fun t ht hW => ⟨nI k, rfl, by first | rfl | trivial | omega | assumption, ht⟩) (fun _ h9 => by cases h9) dX5_block_116
                  · skip
                    have n84 : ¬ (nl ≤ (k + mm)) := fun q9 => c84 ((nI_leI (a := nl) (b := k + mm) (by omega) (by omega)).mpr q9)
                    refine lv_aload_n hx hb dX5_block_87 rfl (lv_at hl 0 rfl) ?_
                    refine lv_iload hx hb dX5_block_88 (lv_at hl 2 rfl) ?_
                    refine lv_iload hx hb dX5_block_90 (lv_at hl 3 rfl) ?_
                    refine lv_iadd hx hb dX5_block_92 ?_
                    refine topE (y := nI (k + mm)) (nI_add k mm) ?_
                    refine cRi (w := mw G h u lt sj) (As := [.int (nI (k + mm))]) (rest := []) ⟨hx, hb, hml, hown, hts⟩ (mt_X5_isNewBlock l G h u lt sj (k + mm) (by first | assumption | omega)) (cwV 1 hts gX5_block_X5_isNewBlock rfl rfl rfl ⟨rfl, hd_X5_isNewBlock⟩ ⟨Nat.le_of_ble_eq_true rfl, Nat.le_of_ble_eq_true rfl⟩) hK hN hP 0 5 rfl rfl rfl hl.1 rfl (Nat.le_of_ble_eq_true rfl) ⟨Nat.zero_le _, Nat.zero_le _⟩ dX5_block_93 (fun r93 hw93 => ?_)
                    rcases hw93 with ⟨rfl, hy93⟩ | ⟨rfl, hn93⟩
                    · skip
                      refine lv_if_ne (tgt := 105) hx hb dX5_block_96 (by decide) (fun _ => ?_) (fun c9 => absurd c9 (by decide))
                      refine lv_iload_n hx hb dX5_block_105 rfl (lv_at hl 1 rfl) ?_
                      refine lv_if_ne (tgt := 114) hx hb dX5_block_106 (by decide) (fun c106 => ?_) (fun c106 => ?_)
                      · skip
                        refine lv_iload hx hb dX5_block_114 (lv_at hl 3 rfl) ?_
                        exact W.iret (v := nI mm) hx hb hr (fun t ht hW => ⟨nI mm, rfl, by first | rfl | trivial | omega | assumption, ht⟩) (fun _ h9 => by cases h9) dX5_block_116
                      · skip
                        refine lv_iload hx hb dX5_block_109 (lv_at hl 2 rfl) ?_
                        refine lv_goto (tgt := 116) hx hb dX5_block_111 (by decide) ?_
                        exact W.iret (v := nI k) hx hb hr (fun t ht hW => ⟨nI k, rfl, by first | rfl | trivial | omega | assumption, ht⟩) (fun _ h9 => by cases h9) dX5_block_116
                    · skip
                      refine lv_if_ne (tgt := 105) hx hb dX5_block_96 (by decide) (fun c9 => absurd (by decide) c9) (fun _ => ?_)
                      refine lv_iinc (v := nI (mm + 1)) (lv' := [(5, .int (nI (mm + 1))), (0, .ref (h 0)), (2, .int what), (4, .int (nI k))]) hx hb dX5_block_99 hl (k := 3) rfl (nI_1 mm) (by decide) rfl (fun ls hl => ?_)
                      refine lv_goto (tgt := 75) hx hb dX5_block_102 (by decide) ?_
                      exact ih75 (mm + 1) (by first | assumption | omega) (by omega) ls (lv_sub hl [1, 2, 3, 0] rfl)
              exact LP75 (nl + 1 - 1 + 1) 1 (by first | assumption | omega) (Nat.lt_succ_self _) ls (lv_sub hl [1, 2, 4, 0] rfl)
            · skip
              have n46 : ¬ (ll ≤ 0) := fun q9 => c46 ((nI_leI (a := ll) (b := 0) (by omega) (by omega)).mpr q9)
              refine lv_iload_n hx hb dX5_block_49 rfl (lv_at hl 2 rfl) ?_
              refine lv_aload_n hx hb dX5_block_50 rfl (lv_at hl 0 rfl) ?_
              refine lv_iload hx hb dX5_block_51 (lv_at hl 3 rfl) ?_
              refine cRi (w := mw G h u lt sj) (As := [.int (nI k)]) (rest := [.int (nI ll)]) ⟨hx, hb, hml, hown, hts⟩ (mt_X5_isNewBlock l G h u lt sj k (by first | assumption | omega)) (cwV 1 hts gX5_block_X5_isNewBlock rfl rfl rfl ⟨rfl, hd_X5_isNewBlock⟩ ⟨Nat.le_of_ble_eq_true rfl, Nat.le_of_ble_eq_true rfl⟩) hK hN hP 0 5 rfl rfl rfl hl.1 rfl (Nat.le_of_ble_eq_true rfl) ⟨Nat.zero_le _, Nat.zero_le _⟩ dX5_block_53 (fun r53 hw53 => ?_)
              rcases hw53 with ⟨rfl, hy53⟩ | ⟨rfl, hn53⟩
              · skip
                refine lv_if_eq (tgt := 63) hx hb dX5_block_56 (by decide) (fun c9 => absurd c9 (by decide)) (fun _ => ?_)
                refine lv_iconst (v := nI 1) hx hb dX5_block_59 (by decide) ?_
                refine lv_goto (tgt := 64) hx hb dX5_block_60 (by decide) ?_
                refine lv_isub hx hb dX5_block_64 ?_
                refine topE (y := nI (ll - 1)) (pk_sub (by first | omega | (exfalso; simp_all))) ?_
                refine lv_istore_n (lv' := [(3, .int (nI (ll - 1))), (0, .ref (h 0)), (2, .int what), (4, .int (nI k))]) hx hb dX5_block_65 rfl hl (by decide) rfl (fun ls hl => ?_)
                refine lv_iinc (v := nI (k + 1)) (lv' := [(4, .int (nI (k + 1))), (3, .int (nI (ll - 1))), (0, .ref (h 0)), (2, .int what)]) hx hb dX5_block_66 hl (k := 3) rfl (nI_1 k) (by decide) rfl (fun ls hl => ?_)
                refine lv_goto (tgt := 36) hx hb dX5_block_69 (by decide) ?_
                exact ih36 (ll - 1) (k + 1) (by first | (rw [cnt_t (by assumption)]; omega) | (rw [cnt_f (by assumption)]; omega) | (exfalso; simp_all)) (by omega) ls (lv_sub hl [2, 3, 1, 0] rfl)
              · skip
                refine lv_if_eq (tgt := 63) hx hb dX5_block_56 (by decide) (fun _ => ?_) (fun c9 => absurd (by decide) c9)
                refine lv_iconst (v := nI 0) hx hb dX5_block_63 (by decide) ?_
                refine lv_isub hx hb dX5_block_64 ?_
                refine topE (y := nI (ll - 0)) (pk_sub (by first | omega | (exfalso; simp_all))) ?_
                refine lv_istore_n (lv' := [(3, .int (nI (ll - 0))), (0, .ref (h 0)), (2, .int what), (4, .int (nI k))]) hx hb dX5_block_65 rfl hl (by decide) rfl (fun ls hl => ?_)
                refine lv_iinc (v := nI (k + 1)) (lv' := [(4, .int (nI (k + 1))), (3, .int (nI (ll - 0))), (0, .ref (h 0)), (2, .int what)]) hx hb dX5_block_66 hl (k := 3) rfl (nI_1 k) (by decide) rfl (fun ls hl => ?_)
                refine lv_goto (tgt := 36) hx hb dX5_block_69 (by decide) ?_
                exact ih36 (ll - 0) (k + 1) (by first | (rw [cnt_t (by assumption)]; omega) | (rw [cnt_f (by assumption)]; omega) | (exfalso; simp_all)) (by omega) ls (lv_sub hl [2, 3, 1, 0] rfl)
          · skip
            refine lv_if_eq (tgt := 49) hx hb dX5_block_42 (by decide) (fun _ => ?_) (fun c9 => absurd (by decide) c9)
            refine lv_iload_n hx hb dX5_block_49 rfl (lv_at hl 2 rfl) ?_
            refine lv_aload_n hx hb dX5_block_50 rfl (lv_at hl 0 rfl) ?_
            refine lv_iload hx hb dX5_block_51 (lv_at hl 3 rfl) ?_
            refine cRi (w := mw G h u lt sj) (As := [.int (nI k)]) (rest := [.int (nI ll)]) ⟨hx, hb, hml, hown, hts⟩ (mt_X5_isNewBlock l G h u lt sj k (by first | assumption | omega)) (cwV 1 hts gX5_block_X5_isNewBlock rfl rfl rfl ⟨rfl, hd_X5_isNewBlock⟩ ⟨Nat.le_of_ble_eq_true rfl, Nat.le_of_ble_eq_true rfl⟩) hK hN hP 0 5 rfl rfl rfl hl.1 rfl (Nat.le_of_ble_eq_true rfl) ⟨Nat.zero_le _, Nat.zero_le _⟩ dX5_block_53 (fun r53 hw53 => ?_)
            rcases hw53 with ⟨rfl, hy53⟩ | ⟨rfl, hn53⟩
            · skip
              refine lv_if_eq (tgt := 63) hx hb dX5_block_56 (by decide) (fun c9 => absurd c9 (by decide)) (fun _ => ?_)
              refine lv_iconst (v := nI 1) hx hb dX5_block_59 (by decide) ?_
              refine lv_goto (tgt := 64) hx hb dX5_block_60 (by decide) ?_
              refine lv_isub hx hb dX5_block_64 ?_
              refine topE (y := nI (ll - 1)) (pk_sub (by first | omega | (exfalso; simp_all))) ?_
              refine lv_istore_n (lv' := [(3, .int (nI (ll - 1))), (0, .ref (h 0)), (2, .int what), (4, .int (nI k))]) hx hb dX5_block_65 rfl hl (by decide) rfl (fun ls hl => ?_)
              refine lv_iinc (v := nI (k + 1)) (lv' := [(4, .int (nI (k + 1))), (3, .int (nI (ll - 1))), (0, .ref (h 0)), (2, .int what)]) hx hb dX5_block_66 hl (k := 3) rfl (nI_1 k) (by decide) rfl (fun ls hl => ?_)
              refine lv_goto (tgt := 36) hx hb dX5_block_69 (by decide) ?_
              exact ih36 (ll - 1) (k + 1) (by first | (rw [cnt_t (by assumption)]; omega) | (rw [cnt_f (by assumption)]; omega) | (exfalso; simp_all)) (by omega) ls (lv_sub hl [2, 3, 1, 0] rfl)
            · skip
              refine lv_if_eq (tgt := 63) hx hb dX5_block_56 (by decide) (fun _ => ?_) (fun c9 => absurd (by decide) c9)
              refine lv_iconst (v := nI 0) hx hb dX5_block_63 (by decide) ?_
              refine lv_isub hx hb dX5_block_64 ?_
              refine topE (y := nI (ll - 0)) (pk_sub (by first | omega | (exfalso; simp_all))) ?_
              refine lv_istore_n (lv' := [(3, .int (nI (ll - 0))), (0, .ref (h 0)), (2, .int what), (4, .int (nI k))]) hx hb dX5_block_65 rfl hl (by decide) rfl (fun ls hl => ?_)
              refine lv_iinc (v := nI (k + 1)) (lv' := [(4, .int (nI (k + 1))), (3, .int (nI (ll - 0))), (0, .ref (h 0)), (2, .int what)]) hx hb dX5_block_66 hl (k := 3) rfl (nI_1 k) (by decide) rfl (fun ls hl => ?_)
              refine lv_goto (tgt := 36) hx hb dX5_block_69 (by decide) ?_
              exact ih36 (ll - 0) (k + 1) (by first | (rw [cnt_t (by assumption)]; omega) | (rw [cnt_f (by assumption)]; omega) | (exfalso; simp_all)) (by omega) ls (lv_sub hl [2, 3, 1, 0] rfl)
      exact LP36 (nl - 0 + 1) b1 0 (rfl) (Nat.lt_succ_self _) ls (lv_sub hl [2, 4, 1, 0] rfl)
    · skip
      refine lv_if_ne (tgt := 31) hx hb dX5_block_26 (by decide) (fun c9 => absurd (by decide) c9) (fun _ => ?_)
      refine lv_iconst (v := (-1 : Int32)) hx hb dX5_block_29 (by decide) ?_
      exact W.iret (v := (-1 : Int32)) hx hb hr (fun t ht hW => ⟨(-1 : Int32), rfl, by first | rfl | trivial | omega | assumption, ht⟩) (fun _ h9 => by cases h9) dX5_block_30
  · skip
    refine lv_if_ne (tgt := 13) hx hb dX5_block_7 (by decide) (fun c9 => absurd (by decide) c9) (fun _ => ?_)
    refine lv_ldc (v := (-1000000002 : Int32)) hx hb hown (hts (.constant RX5 100 (-1000000002)) (List.mem_of_getElem? (i := 1) rfl)) dX5_block_10 ?_
    exact W.iret (v := (-1000000002 : Int32)) hx hb hr (fun t ht hW => ⟨(-1000000002 : Int32), rfl, by first | rfl | trivial | omega | assumption, ht⟩) (fun _ h9 => by cases h9) dX5_block_12
