set_option maxHeartbeats 1000000 in
set_option maxRecDepth 100000 in
theorem mt_X5_bothOf (l : Launch) (G : gG) (h : Nat → Nat) (u : oS) (lt : Int64) (sj : Nat → Int64) (nl : Nat) (a : Int32) (b : Int32) (hnl : u.1 4 = nI nl) (hnl120 : nl ≤ 120) : Met l yX5_bothOf wsX5_bothOf ({ frames := 2, cells := 0, slots := 0, locals := 43 }) (preR G (mw G h u lt sj) [.ref (h 0), .int a, .int b]) (vp_Si (fun r : Int32 => r = nI (cnt (fun i => sdb (u.2 6) (u.2 7) a i && sdb (u.2 6) (u.2 7) b i) nl))) 0 0 (fun _ => False) := by
  refine Met.ofW (cc := cX5_bothOf) (maxL := 5) (ret := (some .int)) (by decide) rfl ?_
  intro p e s m args below meth c s₁ B hml hv
  obtain ⟨ha, hP, hK, hN⟩ := hv
  subst ha
  have hx := B.exec
  have hb := B.bytes
  have hr := B.returns
  have hts := atoms_spec (ws := wsX5_bothOf) B.pre
  have hown : s.vm.findClass RX5 = some m.cls := findClass_of_methodNamed B.named
  have hlocks := B.notSynchronized
  have hiX5 : ∀ w ∈ wsX50, w ∈ wsX5_bothOf := by decide +kernel
  have k175 := hts (.fieldLink RX5 175 "WovenHistoryModel" "lines" "I") (List.mem_of_getElem? (i := 1) rfl)
  have hl := lv_entry ([.ref (h 0), .int a, .int b]) (n := 5) (Nat.le_of_ble_eq_true rfl)
  rw [lg_entry_eq]
  generalize (lg_sl ([.ref (h 0), .int a, .int b]) ++ List.replicate (5 - (lg_sl ([.ref (h 0), .int a, .int b])).length) Slot.unset).toArray = ls at hl ⊢
  have hl : lv_has ls 5 [(0, .ref (h 0)), (1, .int a), (2, .int b)] := hl
  refine lv_iconst (v := nI 0) hx hb dX5_bothOf_0 (by decide) ?_
  refine lv_istore_n (lv' := [(3, .int (nI 0)), (0, .ref (h 0)), (1, .int a), (2, .int b)]) hx hb dX5_bothOf_1 rfl hl (by decide) rfl (fun ls hl => ?_)
  refine lv_iconst (v := nI 0) hx hb dX5_bothOf_2 (by decide) ?_
  refine lv_istore (lv' := [(4, .int (nI 0)), (3, .int (nI 0)), (0, .ref (h 0)), (1, .int a), (2, .int b)]) hx hb dX5_bothOf_3 hl (by decide) rfl (fun ls hl => ?_)
  have LP5 : ∀ (n5m : Nat), ∀ (k : Nat) (j : Nat) (hk : k ≤ nl) (hj : j = cnt (fun i => sdb (u.2 6) (u.2 7) a i && sdb (u.2 6) (u.2 7) b i) k) (hj2 : j ≤ k), (nl - k < n5m) → ∀ (ls : Array Slot), lv_has ls 5 [(0, .ref (h 0)), (1, .int a), (2, .int b), (3, .int (nI j)), (4, .int (nI k))] → W p l e (headSpec wsX5_bothOf ({ frames := 2, cells := 0, slots := 0, locals := 43 })).room s m ([.ref (h 0), .int a, .int b] : List Value).toArray below meth c s.heap [] 0 0 (MQ below (vp_Si (fun r : Int32 => r = nI (cnt (fun i => sdb (u.2 6) (u.2 7) a i && sdb (u.2 6) (u.2 7) b i) nl))) ([.ref (h 0), .int a, .int b] : List Value).toArray s 0 0 (fun _ => False)) (F0 m 5 ls []) := by
    intro n5m
    induction n5m with
    | zero => intro k j hk hj hj2 hmu ls hl; exact absurd hmu (Nat.not_lt_zero _)
    | succ n5m ih5 =>
      intro k j hk hj hj2 hmu ls hl
      refine lv_iload hx hb dX5_bothOf_5 (lv_at hl 4 rfl) ?_
      refine lv_aload_n hx hb dX5_bothOf_7 rfl (lv_at hl 0 rfl) ?_
      refine va_get (D := gD G) (ci := 5) (v := .int (u.1 4)) (C := RX5) (T := TX5) (N := 38) hx hb hts hiX5 hown hK hP 0 rfl rfl 4 (by decide) k175 (fun _ h9 => h9) rfl dX5_bothOf_8 ?_
      refine topE hnl ?_
      refine lv_icmp_ge (tgt := 48) hx hb dX5_bothOf_11 (by decide) (fun c11 => ?_) (fun c11 => ?_)
      · skip
        have n11 : nl ≤ k := (nI_leI (a := nl) (b := k) (by omega) (by omega)).mp c11
        refine lv_iload_n hx hb dX5_bothOf_48 rfl (lv_at hl 3 rfl) ?_
        exact W.iret (v := nI j) hx hb hr (fun t ht hW => ⟨nI j, rfl, by rw [hj, show k = nl by omega], ht⟩) (fun _ h9 => by cases h9) dX5_bothOf_49
      · skip
        have n11 : ¬ (nl ≤ k) := fun q9 => c11 ((nI_leI (a := nl) (b := k) (by omega) (by omega)).mpr q9)
        refine lv_iload_n hx hb dX5_bothOf_14 rfl (lv_at hl 3 rfl) ?_
        refine lv_aload_n hx hb dX5_bothOf_15 rfl (lv_at hl 0 rfl) ?_
        refine lv_iload hx hb dX5_bothOf_16 (lv_at hl 4 rfl) ?_
        refine lv_iload_n hx hb dX5_bothOf_18 rfl (lv_at hl 1 rfl) ?_
        refine cRi (w := mw G h u lt sj) (As := [.int (nI k), .int a]) (rest := [.int (nI j)]) ⟨hx, hb, hml, hown, hts⟩ (mt_X5_stands l G h u lt sj k a (by first | assumption | omega)) (cwV 2 hts gX5_bothOf_X5_stands rfl rfl rfl (by decide +kernel) ⟨Nat.le_of_ble_eq_true rfl, Nat.le_of_ble_eq_true rfl⟩) hK hN hP 0 5 rfl rfl rfl hl.1 rfl (Nat.le_of_ble_eq_true rfl) ⟨Nat.zero_le _, Nat.zero_le _⟩ dX5_bothOf_19 (fun r19 hw19 => ?_)
        rcases hw19 with ⟨rfl, hy19⟩ | ⟨rfl, hn19⟩
        · skip
          refine lv_if_eq (tgt := 39) hx hb dX5_bothOf_22 (by decide) (fun c9 => absurd c9 (by decide)) (fun _ => ?_)
          refine lv_aload_n hx hb dX5_bothOf_25 rfl (lv_at hl 0 rfl) ?_
          refine lv_iload hx hb dX5_bothOf_26 (lv_at hl 4 rfl) ?_
          refine lv_iload_n hx hb dX5_bothOf_28 rfl (lv_at hl 2 rfl) ?_
          refine cRi (w := mw G h u lt sj) (As := [.int (nI k), .int b]) (rest := [.int (nI j)]) ⟨hx, hb, hml, hown, hts⟩ (mt_X5_stands l G h u lt sj k b (by first | assumption | omega)) (cwV 2 hts gX5_bothOf_X5_stands rfl rfl rfl (by decide +kernel) ⟨Nat.le_of_ble_eq_true rfl, Nat.le_of_ble_eq_true rfl⟩) hK hN hP 0 5 rfl rfl rfl hl.1 rfl (Nat.le_of_ble_eq_true rfl) ⟨Nat.zero_le _, Nat.zero_le _⟩ dX5_bothOf_29 (fun r29 hw29 => ?_)
          rcases hw29 with ⟨rfl, hy29⟩ | ⟨rfl, hn29⟩
          · skip
            refine lv_if_eq (tgt := 39) hx hb dX5_bothOf_32 (by decide) (fun c9 => absurd c9 (by decide)) (fun _ => ?_)
            refine lv_iconst (v := nI 1) hx hb dX5_bothOf_35 (by decide) ?_
            refine lv_goto (tgt := 40) hx hb dX5_bothOf_36 (by decide) ?_
            refine lv_iadd hx hb dX5_bothOf_40 ?_
            refine topE (y := nI (j + 1)) (nI_add j 1) ?_
            refine lv_istore_n (lv' := [(3, .int (nI (j + 1))), (0, .ref (h 0)), (1, .int a), (2, .int b), (4, .int (nI k))]) hx hb dX5_bothOf_41 rfl hl (by decide) rfl (fun ls hl => ?_)
            refine lv_iinc (v := nI (k + 1)) (lv' := [(4, .int (nI (k + 1))), (3, .int (nI (j + 1))), (0, .ref (h 0)), (1, .int a), (2, .int b)]) hx hb dX5_bothOf_42 hl (k := 4) rfl (nI_1 k) (by decide) rfl (fun ls hl => ?_)
            refine lv_goto (tgt := 5) hx hb dX5_bothOf_45 (by decide) ?_
            exact ih5 (k + 1) (j + 1) (by first | assumption | omega) (by first | rfl | omega | (rw [cnt_t (by simp only [*, Bool.and_self])]; omega) | (rw [cnt_f (by simp only [*, Bool.and_false, Bool.false_and])]; omega)) (by first | assumption | omega) (by omega) ls (lv_sub hl [2, 3, 4, 1, 0] rfl)
          · skip
            refine lv_if_eq (tgt := 39) hx hb dX5_bothOf_32 (by decide) (fun _ => ?_) (fun c9 => absurd (by decide) c9)
            refine lv_iconst (v := nI 0) hx hb dX5_bothOf_39 (by decide) ?_
            refine lv_iadd hx hb dX5_bothOf_40 ?_
            refine topE (y := nI (j + 0)) (nI_add j 0) ?_
            refine lv_istore_n (lv' := [(3, .int (nI (j + 0))), (0, .ref (h 0)), (1, .int a), (2, .int b), (4, .int (nI k))]) hx hb dX5_bothOf_41 rfl hl (by decide) rfl (fun ls hl => ?_)
            refine lv_iinc (v := nI (k + 1)) (lv' := [(4, .int (nI (k + 1))), (3, .int (nI (j + 0))), (0, .ref (h 0)), (1, .int a), (2, .int b)]) hx hb dX5_bothOf_42 hl (k := 4) rfl (nI_1 k) (by decide) rfl (fun ls hl => ?_)
            refine lv_goto (tgt := 5) hx hb dX5_bothOf_45 (by decide) ?_
            exact ih5 (k + 1) (j + 0) (by first | assumption | omega) (by first | rfl | omega | (rw [cnt_t (by simp only [*, Bool.and_self])]; omega) | (rw [cnt_f (by simp only [*, Bool.and_false, Bool.false_and])]; omega)) (by first | assumption | omega) (by omega) ls (lv_sub hl [2, 3, 4, 1, 0] rfl)
        · skip
          refine lv_if_eq (tgt := 39) hx hb dX5_bothOf_22 (by decide) (fun _ => ?_) (fun c9 => absurd (by decide) c9)
          refine lv_iconst (v := nI 0) hx hb dX5_bothOf_39 (by decide) ?_
          refine lv_iadd hx hb dX5_bothOf_40 ?_
          refine topE (y := nI (j + 0)) (nI_add j 0) ?_
          refine lv_istore_n (lv' := [(3, .int (nI (j + 0))), (0, .ref (h 0)), (1, .int a), (2, .int b), (4, .int (nI k))]) hx hb dX5_bothOf_41 rfl hl (by decide) rfl (fun ls hl => ?_)
          refine lv_iinc (v := nI (k + 1)) (lv' := [(4, .int (nI (k + 1))), (3, .int (nI (j + 0))), (0, .ref (h 0)), (1, .int a), (2, .int b)]) hx hb dX5_bothOf_42 hl (k := 4) rfl (nI_1 k) (by decide) rfl (fun ls hl => ?_)
          refine lv_goto (tgt := 5) hx hb dX5_bothOf_45 (by decide) ?_
          exact ih5 (k + 1) (j + 0) (by first | assumption | omega) (by first | rfl | omega | (rw [cnt_t (by simp only [*, Bool.and_self])]; omega) | (rw [cnt_f (by simp only [*, Bool.and_false, Bool.false_and])]; omega)) (by first | assumption | omega) (by omega) ls (lv_sub hl [2, 3, 4, 1, 0] rfl)
  exact LP5 (nl - 0 + 1) 0 0 (by first | assumption | omega) (by first | rfl | omega | (rw [cnt_t (by simp only [*, Bool.and_self])]; omega) | (rw [cnt_f (by simp only [*, Bool.and_false, Bool.false_and])]; omega)) (by first | assumption | omega) (Nat.lt_succ_self _) ls (lv_sub hl [2, 3, 4, 1, 0] rfl)
set_option maxHeartbeats 1000000 in
set_option maxRecDepth 100000 in
theorem mt_X5_partOf (l : Launch) (G : gG) (h : Nat → Nat) (u : oS) (lt : Int64) (sj : Nat → Int64) (nl : Nat) (a : Int32) (b : Int32) (hnl : u.1 4 = nI nl) (hnl120 : nl ≤ 120) : Met l yX5_partOf wsX5_partOf ({ frames := 3, cells := 0, slots := 0, locals := 67 }) (preR G (mw G h u lt sj) [.ref (h 0), .int a, .int b]) (vp_Si (fun r : Int32 => True)) 0 0 (fun _ => False) := by
  refine Met.ofW (cc := cX5_partOf) (maxL := 6) (ret := (some .int)) (by decide) rfl ?_
  intro p e s m args below meth c s₁ B hml hv
  obtain ⟨ha, hP, hK, hN⟩ := hv
  subst ha
  have hx := B.exec
  have hb := B.bytes
  have hr := B.returns
  have hts := atoms_spec (ws := wsX5_partOf) B.pre
  have hown : s.vm.findClass RX5 = some m.cls := findClass_of_methodNamed B.named
  have hlocks := B.notSynchronized
  have hl := lv_entry ([.ref (h 0), .int a, .int b]) (n := 6) (Nat.le_of_ble_eq_true rfl)
  rw [lg_entry_eq]
  generalize (lg_sl ([.ref (h 0), .int a, .int b]) ++ List.replicate (6 - (lg_sl ([.ref (h 0), .int a, .int b])).length) Slot.unset).toArray = ls at hl ⊢
  have hl : lv_has ls 6 [(0, .ref (h 0)), (1, .int a), (2, .int b)] := hl
  refine lv_iconst (v := nI 0) hx hb dX5_partOf_0 (by decide) ?_
  refine lv_istore_n (lv' := [(3, .int (nI 0)), (0, .ref (h 0)), (1, .int a), (2, .int b)]) hx hb dX5_partOf_1 rfl hl (by decide) rfl (fun ls hl => ?_)
  refine lv_aload_n hx hb dX5_partOf_2 rfl (lv_at hl 1 rfl) ?_
  refine lv_iload_n hx hb dX5_partOf_3 rfl (lv_at hl 2 rfl) ?_
  refine lv_iconst (v := nI 0) hx hb dX5_partOf_4 (by decide) ?_
  refine cRi (w := mw G h u lt sj) (As := [.int a, .int (nI 0)]) (rest := []) ⟨hx, hb, hml, hown, hts⟩ (mt_X5_lineAt l G h u lt sj nl a 0 (hnl) (by first | assumption | omega) (by omega)) (cwV 2 hts gX5_partOf_X5_lineAt rfl rfl rfl (by decide +kernel) ⟨Nat.le_of_ble_eq_true rfl, Nat.le_of_ble_eq_true rfl⟩) hK hN hP 0 5 rfl rfl rfl hl.1 rfl (Nat.le_of_ble_eq_true rfl) ⟨Nat.zero_le _, Nat.zero_le _⟩ dX5_partOf_5 (fun r5 hw5 => ?_)
  rcases hw5 with ⟨i5, hi5, hp5, hq5, rfl⟩ | ⟨hq5, rfl⟩
  · skip
    refine lv_istore (lv' := [(4, .int (nI (i5))), (3, .int (nI 0)), (0, .ref (h 0)), (1, .int a), (2, .int b)]) hx hb dX5_partOf_8 hl (by decide) rfl (fun ls hl => ?_)
    refine lv_aload_n hx hb dX5_partOf_10 rfl (lv_at hl 2 rfl) ?_
    refine lv_iload_n hx hb dX5_partOf_11 rfl (lv_at hl 4 rfl) ?_
    refine lv_iconst (v := nI 0) hx hb dX5_partOf_12 (by decide) ?_
    refine cRi (w := mw G h u lt sj) (As := [.int b, .int (nI 0)]) (rest := []) ⟨hx, hb, hml, hown, hts⟩ (mt_X5_lineAt l G h u lt sj nl b 0 (hnl) (by first | assumption | omega) (by omega)) (cwV 2 hts gX5_partOf_X5_lineAt rfl rfl rfl (by decide +kernel) ⟨Nat.le_of_ble_eq_true rfl, Nat.le_of_ble_eq_true rfl⟩) hK hN hP 0 5 rfl rfl rfl hl.1 rfl (Nat.le_of_ble_eq_true rfl) ⟨Nat.zero_le _, Nat.zero_le _⟩ dX5_partOf_13 (fun r13 hw13 => ?_)
    rcases hw13 with ⟨i13, hi13, hp13, hq13, rfl⟩ | ⟨hq13, rfl⟩
    · skip
      refine lv_istore (lv' := [(5, .int (nI (i13))), (4, .int (nI (i5))), (3, .int (nI 0)), (0, .ref (h 0)), (1, .int a), (2, .int b)]) hx hb dX5_partOf_16 hl (by decide) rfl (fun ls hl => ?_)
      have LP18 : ∀ (n18m : Nat), ∀ (pp : Nat) (x : Int32) (y : Int32) (h1 : ¬ x < 0 → pp < nl) (hpp : pp ≤ nl), (nl + 1 - pp < n18m) → ∀ (ls : Array Slot), lv_has ls 6 [(0, .ref (h 0)), (1, .int a), (2, .int b), (3, .int (nI pp)), (4, .int x), (5, .int y)] → W p l e (headSpec wsX5_partOf ({ frames := 3, cells := 0, slots := 0, locals := 67 })).room s m ([.ref (h 0), .int a, .int b] : List Value).toArray below meth c s.heap [] 0 0 (MQ below (vp_Si (fun r : Int32 => True)) ([.ref (h 0), .int a, .int b] : List Value).toArray s 0 0 (fun _ => False)) (F0 m 18 ls []) := by
        intro n18m
        induction n18m with
        | zero => intro pp x y h1 hpp hmu ls hl; exact absurd hmu (Nat.not_lt_zero _)
        | succ n18m ih18 =>
          intro pp x y h1 hpp hmu ls hl
          refine lv_iload hx hb dX5_partOf_18 (lv_at hl 4 rfl) ?_
          refine lv_iload hx hb dX5_partOf_20 (lv_at hl 5 rfl) ?_
          refine lv_icmp_ne (tgt := 52) hx hb dX5_partOf_22 (by decide) (fun c22 => ?_) (fun c22 => ?_)
          · skip
            refine lv_iload hx hb dX5_partOf_52 (lv_at hl 4 rfl) ?_
            refine lv_iload hx hb dX5_partOf_54 (lv_at hl 5 rfl) ?_
            refine lv_icmp_ne (tgt := 63) hx hb dX5_partOf_56 (by decide) (fun c56 => ?_) (fun c56 => ?_)
            · skip
              refine lv_iload_n hx hb dX5_partOf_63 rfl (lv_at hl 3 rfl) ?_
              exact W.iret (v := nI pp) hx hb hr (fun t ht hW => ⟨nI pp, rfl, by first | rfl | trivial | omega | assumption, ht⟩) (fun _ h9 => by cases h9) dX5_partOf_64
            · skip
              refine lv_iconst (v := (-1 : Int32)) hx hb dX5_partOf_59 (by decide) ?_
              refine lv_goto (tgt := 64) hx hb dX5_partOf_60 (by decide) ?_
              exact W.iret (v := (-1 : Int32)) hx hb hr (fun t ht hW => ⟨(-1 : Int32), rfl, by first | rfl | trivial | omega | assumption, ht⟩) (fun _ h9 => by cases h9) dX5_partOf_64
          · skip
            refine lv_iload hx hb dX5_partOf_25 (lv_at hl 4 rfl) ?_
            refine lv_if_lt (tgt := 52) hx hb dX5_partOf_27 (by decide) (fun c27 => ?_) (fun c27 => ?_)
            · skip
              refine lv_iload hx hb dX5_partOf_52 (lv_at hl 4 rfl) ?_
              refine lv_iload hx hb dX5_partOf_54 (lv_at hl 5 rfl) ?_
              refine lv_icmp_ne (tgt := 63) hx hb dX5_partOf_56 (by decide) (fun c56 => ?_) (fun c56 => ?_)
              · skip
                refine lv_iload_n hx hb dX5_partOf_63 rfl (lv_at hl 3 rfl) ?_
                exact W.iret (v := nI pp) hx hb hr (fun t ht hW => ⟨nI pp, rfl, by first | rfl | trivial | omega | assumption, ht⟩) (fun _ h9 => by cases h9) dX5_partOf_64
              · skip
                refine lv_iconst (v := (-1 : Int32)) hx hb dX5_partOf_59 (by decide) ?_
                refine lv_goto (tgt := 64) hx hb dX5_partOf_60 (by decide) ?_
                exact W.iret (v := (-1 : Int32)) hx hb hr (fun t ht hW => ⟨(-1 : Int32), rfl, by first | rfl | trivial | omega | assumption, ht⟩) (fun _ h9 => by cases h9) dX5_partOf_64
            · skip
              have hp27 := h1 c27
              refine lv_iinc (v := nI (pp + 1)) (lv' := [(3, .int (nI (pp + 1))), (0, .ref (h 0)), (1, .int a), (2, .int b), (4, .int x), (5, .int y)]) hx hb dX5_partOf_30 hl (k := 3) rfl (nI_1 pp) (by decide) rfl (fun ls hl => ?_)
              refine lv_aload_n hx hb dX5_partOf_33 rfl (lv_at hl 1 rfl) ?_
              refine lv_iload_n hx hb dX5_partOf_34 rfl (lv_at hl 2 rfl) ?_
              refine lv_iload_n hx hb dX5_partOf_35 rfl (lv_at hl 0 rfl) ?_
              refine cRi (w := mw G h u lt sj) (As := [.int a, .int (nI (pp + 1))]) (rest := []) ⟨hx, hb, hml, hown, hts⟩ (mt_X5_lineAt l G h u lt sj nl a (pp + 1) (hnl) (by first | assumption | omega) (by first | assumption | omega)) (cwV 2 hts gX5_partOf_X5_lineAt rfl rfl rfl (by decide +kernel) ⟨Nat.le_of_ble_eq_true rfl, Nat.le_of_ble_eq_true rfl⟩) hK hN hP 0 5 rfl rfl rfl hl.1 rfl (Nat.le_of_ble_eq_true rfl) ⟨Nat.zero_le _, Nat.zero_le _⟩ dX5_partOf_36 (fun r36 hw36 => ?_)
              rcases hw36 with ⟨i36, hi36, hp36, hq36, rfl⟩ | ⟨hq36, rfl⟩
              · skip
                refine lv_istore (lv' := [(4, .int (nI (i36))), (3, .int (nI (pp + 1))), (0, .ref (h 0)), (1, .int a), (2, .int b), (5, .int y)]) hx hb dX5_partOf_39 hl (by decide) rfl (fun ls hl => ?_)
                refine lv_aload_n hx hb dX5_partOf_41 rfl (lv_at hl 2 rfl) ?_
                refine lv_iload_n hx hb dX5_partOf_42 rfl (lv_at hl 4 rfl) ?_
                refine lv_iload_n hx hb dX5_partOf_43 rfl (lv_at hl 1 rfl) ?_
                refine cRi (w := mw G h u lt sj) (As := [.int b, .int (nI (pp + 1))]) (rest := []) ⟨hx, hb, hml, hown, hts⟩ (mt_X5_lineAt l G h u lt sj nl b (pp + 1) (hnl) (by first | assumption | omega) (by first | assumption | omega)) (cwV 2 hts gX5_partOf_X5_lineAt rfl rfl rfl (by decide +kernel) ⟨Nat.le_of_ble_eq_true rfl, Nat.le_of_ble_eq_true rfl⟩) hK hN hP 0 5 rfl rfl rfl hl.1 rfl (Nat.le_of_ble_eq_true rfl) ⟨Nat.zero_le _, Nat.zero_le _⟩ dX5_partOf_44 (fun r44 hw44 => ?_)
                rcases hw44 with ⟨i44, hi44, hp44, hq44, rfl⟩ | ⟨hq44, rfl⟩
                · skip
                  refine lv_istore (lv' := [(5, .int (nI (i44))), (4, .int (nI (i36))), (3, .int (nI (pp + 1))), (0, .ref (h 0)), (1, .int a), (2, .int b)]) hx hb dX5_partOf_47 hl (by decide) rfl (fun ls hl => ?_)
                  refine lv_goto (tgt := 18) hx hb dX5_partOf_49 (by decide) ?_
                  exact ih18 (pp + 1) (nI (i36)) (nI (i44)) (by first | (intro q; exact absurd (by decide) q) | (intro _; have := cnt_le (sdb (u.2 6) (u.2 7) a) i36; omega)) (by first | assumption | omega) (by omega) ls (lv_sub hl [3, 4, 5, 2, 1, 0] rfl)
                · skip
                  refine lv_istore (lv' := [(5, .int (-1 : Int32)), (4, .int (nI (i36))), (3, .int (nI (pp + 1))), (0, .ref (h 0)), (1, .int a), (2, .int b)]) hx hb dX5_partOf_47 hl (by decide) rfl (fun ls hl => ?_)
                  refine lv_goto (tgt := 18) hx hb dX5_partOf_49 (by decide) ?_
                  exact ih18 (pp + 1) (nI (i36)) (-1 : Int32) (by first | (intro q; exact absurd (by decide) q) | (intro _; have := cnt_le (sdb (u.2 6) (u.2 7) a) i36; omega)) (by first | assumption | omega) (by omega) ls (lv_sub hl [3, 4, 5, 2, 1, 0] rfl)
              · skip
                refine lv_istore (lv' := [(4, .int (-1 : Int32)), (3, .int (nI (pp + 1))), (0, .ref (h 0)), (1, .int a), (2, .int b), (5, .int y)]) hx hb dX5_partOf_39 hl (by decide) rfl (fun ls hl => ?_)
                refine lv_aload_n hx hb dX5_partOf_41 rfl (lv_at hl 2 rfl) ?_
                refine lv_iload_n hx hb dX5_partOf_42 rfl (lv_at hl 4 rfl) ?_
                refine lv_iload_n hx hb dX5_partOf_43 rfl (lv_at hl 1 rfl) ?_
                refine cRi (w := mw G h u lt sj) (As := [.int b, .int (nI (pp + 1))]) (rest := []) ⟨hx, hb, hml, hown, hts⟩ (mt_X5_lineAt l G h u lt sj nl b (pp + 1) (hnl) (by first | assumption | omega) (by first | assumption | omega)) (cwV 2 hts gX5_partOf_X5_lineAt rfl rfl rfl (by decide +kernel) ⟨Nat.le_of_ble_eq_true rfl, Nat.le_of_ble_eq_true rfl⟩) hK hN hP 0 5 rfl rfl rfl hl.1 rfl (Nat.le_of_ble_eq_true rfl) ⟨Nat.zero_le _, Nat.zero_le _⟩ dX5_partOf_44 (fun r44 hw44 => ?_)
                rcases hw44 with ⟨i44, hi44, hp44, hq44, rfl⟩ | ⟨hq44, rfl⟩
                · skip
                  refine lv_istore (lv' := [(5, .int (nI (i44))), (4, .int (-1 : Int32)), (3, .int (nI (pp + 1))), (0, .ref (h 0)), (1, .int a), (2, .int b)]) hx hb dX5_partOf_47 hl (by decide) rfl (fun ls hl => ?_)
                  refine lv_goto (tgt := 18) hx hb dX5_partOf_49 (by decide) ?_
                  exact ih18 (pp + 1) (-1 : Int32) (nI (i44)) (by first | (intro q; exact absurd (by decide) q) | (intro _; have := cnt_le (sdb (u.2 6) (u.2 7) a) i36; omega)) (by first | assumption | omega) (by omega) ls (lv_sub hl [3, 4, 5, 2, 1, 0] rfl)
                · skip
                  refine lv_istore (lv' := [(5, .int (-1 : Int32)), (4, .int (-1 : Int32)), (3, .int (nI (pp + 1))), (0, .ref (h 0)), (1, .int a), (2, .int b)]) hx hb dX5_partOf_47 hl (by decide) rfl (fun ls hl => ?_)
                  refine lv_goto (tgt := 18) hx hb dX5_partOf_49 (by decide) ?_
                  exact ih18 (pp + 1) (-1 : Int32) (-1 : Int32) (by first | (intro q; exact absurd (by decide) q) | (intro _; have := cnt_le (sdb (u.2 6) (u.2 7) a) i36; omega)) (by first | assumption | omega) (by omega) ls (lv_sub hl [3, 4, 5, 2, 1, 0] rfl)
      exact LP18 (nl + 1 - 0 + 1) 0 (nI (i5)) (nI (i13)) (by first | (intro q; exact absurd (by decide) q) | (intro _; have := cnt_le (sdb (u.2 6) (u.2 7) a) i5; omega)) (by first | assumption | omega) (Nat.lt_succ_self _) ls (lv_sub hl [3, 4, 5, 2, 1, 0] rfl)
    · skip
      refine lv_istore (lv' := [(5, .int (-1 : Int32)), (4, .int (nI (i5))), (3, .int (nI 0)), (0, .ref (h 0)), (1, .int a), (2, .int b)]) hx hb dX5_partOf_16 hl (by decide) rfl (fun ls hl => ?_)
      have LP18 : ∀ (n18m : Nat), ∀ (pp : Nat) (x : Int32) (y : Int32) (h1 : ¬ x < 0 → pp < nl) (hpp : pp ≤ nl), (nl + 1 - pp < n18m) → ∀ (ls : Array Slot), lv_has ls 6 [(0, .ref (h 0)), (1, .int a), (2, .int b), (3, .int (nI pp)), (4, .int x), (5, .int y)] → W p l e (headSpec wsX5_partOf ({ frames := 3, cells := 0, slots := 0, locals := 67 })).room s m ([.ref (h 0), .int a, .int b] : List Value).toArray below meth c s.heap [] 0 0 (MQ below (vp_Si (fun r : Int32 => True)) ([.ref (h 0), .int a, .int b] : List Value).toArray s 0 0 (fun _ => False)) (F0 m 18 ls []) := by
        intro n18m
        induction n18m with
        | zero => intro pp x y h1 hpp hmu ls hl; exact absurd hmu (Nat.not_lt_zero _)
        | succ n18m ih18 =>
          intro pp x y h1 hpp hmu ls hl
          refine lv_iload hx hb dX5_partOf_18 (lv_at hl 4 rfl) ?_
          refine lv_iload hx hb dX5_partOf_20 (lv_at hl 5 rfl) ?_
          refine lv_icmp_ne (tgt := 52) hx hb dX5_partOf_22 (by decide) (fun c22 => ?_) (fun c22 => ?_)
          · skip
            refine lv_iload hx hb dX5_partOf_52 (lv_at hl 4 rfl) ?_
            refine lv_iload hx hb dX5_partOf_54 (lv_at hl 5 rfl) ?_
            refine lv_icmp_ne (tgt := 63) hx hb dX5_partOf_56 (by decide) (fun c56 => ?_) (fun c56 => ?_)
            · skip
              refine lv_iload_n hx hb dX5_partOf_63 rfl (lv_at hl 3 rfl) ?_
              exact W.iret (v := nI pp) hx hb hr (fun t ht hW => ⟨nI pp, rfl, by first | rfl | trivial | omega | assumption, ht⟩) (fun _ h9 => by cases h9) dX5_partOf_64
            · skip
              refine lv_iconst (v := (-1 : Int32)) hx hb dX5_partOf_59 (by decide) ?_
              refine lv_goto (tgt := 64) hx hb dX5_partOf_60 (by decide) ?_
              exact W.iret (v := (-1 : Int32)) hx hb hr (fun t ht hW => ⟨(-1 : Int32), rfl, by first | rfl | trivial | omega | assumption, ht⟩) (fun _ h9 => by cases h9) dX5_partOf_64
          · skip
            refine lv_iload hx hb dX5_partOf_25 (lv_at hl 4 rfl) ?_
            refine lv_if_lt (tgt := 52) hx hb dX5_partOf_27 (by decide) (fun c27 => ?_) (fun c27 => ?_)
            · skip
              refine lv_iload hx hb dX5_partOf_52 (lv_at hl 4 rfl) ?_
              refine lv_iload hx hb dX5_partOf_54 (lv_at hl 5 rfl) ?_
              refine lv_icmp_ne (tgt := 63) hx hb dX5_partOf_56 (by decide) (fun c56 => ?_) (fun c56 => ?_)
              · skip
                refine lv_iload_n hx hb dX5_partOf_63 rfl (lv_at hl 3 rfl) ?_
                exact W.iret (v := nI pp) hx hb hr (fun t ht hW => ⟨nI pp, rfl, by first | rfl | trivial | omega | assumption, ht⟩) (fun _ h9 => by cases h9) dX5_partOf_64
              · skip
                refine lv_iconst (v := (-1 : Int32)) hx hb dX5_partOf_59 (by decide) ?_
                refine lv_goto (tgt := 64) hx hb dX5_partOf_60 (by decide) ?_
                exact W.iret (v := (-1 : Int32)) hx hb hr (fun t ht hW => ⟨(-1 : Int32), rfl, by first | rfl | trivial | omega | assumption, ht⟩) (fun _ h9 => by cases h9) dX5_partOf_64
            · skip
              have hp27 := h1 c27
              refine lv_iinc (v := nI (pp + 1)) (lv' := [(3, .int (nI (pp + 1))), (0, .ref (h 0)), (1, .int a), (2, .int b), (4, .int x), (5, .int y)]) hx hb dX5_partOf_30 hl (k := 3) rfl (nI_1 pp) (by decide) rfl (fun ls hl => ?_)
              refine lv_aload_n hx hb dX5_partOf_33 rfl (lv_at hl 1 rfl) ?_
              refine lv_iload_n hx hb dX5_partOf_34 rfl (lv_at hl 2 rfl) ?_
              refine lv_iload_n hx hb dX5_partOf_35 rfl (lv_at hl 0 rfl) ?_
              refine cRi (w := mw G h u lt sj) (As := [.int a, .int (nI (pp + 1))]) (rest := []) ⟨hx, hb, hml, hown, hts⟩ (mt_X5_lineAt l G h u lt sj nl a (pp + 1) (hnl) (by first | assumption | omega) (by first | assumption | omega)) (cwV 2 hts gX5_partOf_X5_lineAt rfl rfl rfl (by decide +kernel) ⟨Nat.le_of_ble_eq_true rfl, Nat.le_of_ble_eq_true rfl⟩) hK hN hP 0 5 rfl rfl rfl hl.1 rfl (Nat.le_of_ble_eq_true rfl) ⟨Nat.zero_le _, Nat.zero_le _⟩ dX5_partOf_36 (fun r36 hw36 => ?_)
              rcases hw36 with ⟨i36, hi36, hp36, hq36, rfl⟩ | ⟨hq36, rfl⟩
              · skip
                refine lv_istore (lv' := [(4, .int (nI (i36))), (3, .int (nI (pp + 1))), (0, .ref (h 0)), (1, .int a), (2, .int b), (5, .int y)]) hx hb dX5_partOf_39 hl (by decide) rfl (fun ls hl => ?_)
                refine lv_aload_n hx hb dX5_partOf_41 rfl (lv_at hl 2 rfl) ?_
                refine lv_iload_n hx hb dX5_partOf_42 rfl (lv_at hl 4 rfl) ?_
                refine lv_iload_n hx hb dX5_partOf_43 rfl (lv_at hl 1 rfl) ?_
                refine cRi (w := mw G h u lt sj) (As := [.int b, .int (nI (pp + 1))]) (rest := []) ⟨hx, hb, hml, hown, hts⟩ (mt_X5_lineAt l G h u lt sj nl b (pp + 1) (hnl) (by first | assumption | omega) (by first | assumption | omega)) (cwV 2 hts gX5_partOf_X5_lineAt rfl rfl rfl (by decide +kernel) ⟨Nat.le_of_ble_eq_true rfl, Nat.le_of_ble_eq_true rfl⟩) hK hN hP 0 5 rfl rfl rfl hl.1 rfl (Nat.le_of_ble_eq_true rfl) ⟨Nat.zero_le _, Nat.zero_le _⟩ dX5_partOf_44 (fun r44 hw44 => ?_)
                rcases hw44 with ⟨i44, hi44, hp44, hq44, rfl⟩ | ⟨hq44, rfl⟩
                · skip
                  refine lv_istore (lv' := [(5, .int (nI (i44))), (4, .int (nI (i36))), (3, .int (nI (pp + 1))), (0, .ref (h 0)), (1, .int a), (2, .int b)]) hx hb dX5_partOf_47 hl (by decide) rfl (fun ls hl => ?_)
                  refine lv_goto (tgt := 18) hx hb dX5_partOf_49 (by decide) ?_
                  exact ih18 (pp + 1) (nI (i36)) (nI (i44)) (by first | (intro q; exact absurd (by decide) q) | (intro _; have := cnt_le (sdb (u.2 6) (u.2 7) a) i36; omega)) (by first | assumption | omega) (by omega) ls (lv_sub hl [3, 4, 5, 2, 1, 0] rfl)
                · skip
                  refine lv_istore (lv' := [(5, .int (-1 : Int32)), (4, .int (nI (i36))), (3, .int (nI (pp + 1))), (0, .ref (h 0)), (1, .int a), (2, .int b)]) hx hb dX5_partOf_47 hl (by decide) rfl (fun ls hl => ?_)
                  refine lv_goto (tgt := 18) hx hb dX5_partOf_49 (by decide) ?_
                  exact ih18 (pp + 1) (nI (i36)) (-1 : Int32) (by first | (intro q; exact absurd (by decide) q) | (intro _; have := cnt_le (sdb (u.2 6) (u.2 7) a) i36; omega)) (by first | assumption | omega) (by omega) ls (lv_sub hl [3, 4, 5, 2, 1, 0] rfl)
              · skip
                refine lv_istore (lv' := [(4, .int (-1 : Int32)), (3, .int (nI (pp + 1))), (0, .ref (h 0)), (1, .int a), (2, .int b), (5, .int y)]) hx hb dX5_partOf_39 hl (by decide) rfl (fun ls hl => ?_)
                refine lv_aload_n hx hb dX5_partOf_41 rfl (lv_at hl 2 rfl) ?_
                refine lv_iload_n hx hb dX5_partOf_42 rfl (lv_at hl 4 rfl) ?_
                refine lv_iload_n hx hb dX5_partOf_43 rfl (lv_at hl 1 rfl) ?_
                refine cRi (w := mw G h u lt sj) (As := [.int b, .int (nI (pp + 1))]) (rest := []) ⟨hx, hb, hml, hown, hts⟩ (mt_X5_lineAt l G h u lt sj nl b (pp + 1) (hnl) (by first | assumption | omega) (by first | assumption | omega)) (cwV 2 hts gX5_partOf_X5_lineAt rfl rfl rfl (by decide +kernel) ⟨Nat.le_of_ble_eq_true rfl, Nat.le_of_ble_eq_true rfl⟩) hK hN hP 0 5 rfl rfl rfl hl.1 rfl (Nat.le_of_ble_eq_true rfl) ⟨Nat.zero_le _, Nat.zero_le _⟩ dX5_partOf_44 (fun r44 hw44 => ?_)
                rcases hw44 with ⟨i44, hi44, hp44, hq44, rfl⟩ | ⟨hq44, rfl⟩
                · skip
                  refine lv_istore (lv' := [(5, .int (nI (i44))), (4, .int (-1 : Int32)), (3, .int (nI (pp + 1))), (0, .ref (h 0)), (1, .int a), (2, .int b)]) hx hb dX5_partOf_47 hl (by decide) rfl (fun ls hl => ?_)
                  refine lv_goto (tgt := 18) hx hb dX5_partOf_49 (by decide) ?_
                  exact ih18 (pp + 1) (-1 : Int32) (nI (i44)) (by first | (intro q; exact absurd (by decide) q) | (intro _; have := cnt_le (sdb (u.2 6) (u.2 7) a) i36; omega)) (by first | assumption | omega) (by omega) ls (lv_sub hl [3, 4, 5, 2, 1, 0] rfl)
                · skip
                  refine lv_istore (lv' := [(5, .int (-1 : Int32)), (4, .int (-1 : Int32)), (3, .int (nI (pp + 1))), (0, .ref (h 0)), (1, .int a), (2, .int b)]) hx hb dX5_partOf_47 hl (by decide) rfl (fun ls hl => ?_)
                  refine lv_goto (tgt := 18) hx hb dX5_partOf_49 (by decide) ?_
                  exact ih18 (pp + 1) (-1 : Int32) (-1 : Int32) (by first | (intro q; exact absurd (by decide) q) | (intro _; have := cnt_le (sdb (u.2 6) (u.2 7) a) i36; omega)) (by first | assumption | omega) (by omega) ls (lv_sub hl [3, 4, 5, 2, 1, 0] rfl)
      exact LP18 (nl + 1 - 0 + 1) 0 (nI (i5)) (-1 : Int32) (by first | (intro q; exact absurd (by decide) q) | (intro _; have := cnt_le (sdb (u.2 6) (u.2 7) a) i5; omega)) (by first | assumption | omega) (Nat.lt_succ_self _) ls (lv_sub hl [3, 4, 5, 2, 1, 0] rfl)
  · skip
    refine lv_istore (lv' := [(4, .int (-1 : Int32)), (3, .int (nI 0)), (0, .ref (h 0)), (1, .int a), (2, .int b)]) hx hb dX5_partOf_8 hl (by decide) rfl (fun ls hl => ?_)
    refine lv_aload_n hx hb dX5_partOf_10 rfl (lv_at hl 2 rfl) ?_
    refine lv_iload_n hx hb dX5_partOf_11 rfl (lv_at hl 4 rfl) ?_
    refine lv_iconst (v := nI 0) hx hb dX5_partOf_12 (by decide) ?_
    refine cRi (w := mw G h u lt sj) (As := [.int b, .int (nI 0)]) (rest := []) ⟨hx, hb, hml, hown, hts⟩ (mt_X5_lineAt l G h u lt sj nl b 0 (hnl) (by first | assumption | omega) (by omega)) (cwV 2 hts gX5_partOf_X5_lineAt rfl rfl rfl (by decide +kernel) ⟨Nat.le_of_ble_eq_true rfl, Nat.le_of_ble_eq_true rfl⟩) hK hN hP 0 5 rfl rfl rfl hl.1 rfl (Nat.le_of_ble_eq_true rfl) ⟨Nat.zero_le _, Nat.zero_le _⟩ dX5_partOf_13 (fun r13 hw13 => ?_)
    rcases hw13 with ⟨i13, hi13, hp13, hq13, rfl⟩ | ⟨hq13, rfl⟩
    · skip
      refine lv_istore (lv' := [(5, .int (nI (i13))), (4, .int (-1 : Int32)), (3, .int (nI 0)), (0, .ref (h 0)), (1, .int a), (2, .int b)]) hx hb dX5_partOf_16 hl (by decide) rfl (fun ls hl => ?_)
      have LP18 : ∀ (n18m : Nat), ∀ (pp : Nat) (x : Int32) (y : Int32) (h1 : ¬ x < 0 → pp < nl) (hpp : pp ≤ nl), (nl + 1 - pp < n18m) → ∀ (ls : Array Slot), lv_has ls 6 [(0, .ref (h 0)), (1, .int a), (2, .int b), (3, .int (nI pp)), (4, .int x), (5, .int y)] → W p l e (headSpec wsX5_partOf ({ frames := 3, cells := 0, slots := 0, locals := 67 })).room s m ([.ref (h 0), .int a, .int b] : List Value).toArray below meth c s.heap [] 0 0 (MQ below (vp_Si (fun r : Int32 => True)) ([.ref (h 0), .int a, .int b] : List Value).toArray s 0 0 (fun _ => False)) (F0 m 18 ls []) := by
        intro n18m
        induction n18m with
        | zero => intro pp x y h1 hpp hmu ls hl; exact absurd hmu (Nat.not_lt_zero _)
        | succ n18m ih18 =>
          intro pp x y h1 hpp hmu ls hl
          refine lv_iload hx hb dX5_partOf_18 (lv_at hl 4 rfl) ?_
          refine lv_iload hx hb dX5_partOf_20 (lv_at hl 5 rfl) ?_
          refine lv_icmp_ne (tgt := 52) hx hb dX5_partOf_22 (by decide) (fun c22 => ?_) (fun c22 => ?_)
          · skip
            refine lv_iload hx hb dX5_partOf_52 (lv_at hl 4 rfl) ?_
            refine lv_iload hx hb dX5_partOf_54 (lv_at hl 5 rfl) ?_
            refine lv_icmp_ne (tgt := 63) hx hb dX5_partOf_56 (by decide) (fun c56 => ?_) (fun c56 => ?_)
            · skip
              refine lv_iload_n hx hb dX5_partOf_63 rfl (lv_at hl 3 rfl) ?_
              exact W.iret (v := nI pp) hx hb hr (fun t ht hW => ⟨nI pp, rfl, by first | rfl | trivial | omega | assumption, ht⟩) (fun _ h9 => by cases h9) dX5_partOf_64
            · skip
              refine lv_iconst (v := (-1 : Int32)) hx hb dX5_partOf_59 (by decide) ?_
              refine lv_goto (tgt := 64) hx hb dX5_partOf_60 (by decide) ?_
              exact W.iret (v := (-1 : Int32)) hx hb hr (fun t ht hW => ⟨(-1 : Int32), rfl, by first | rfl | trivial | omega | assumption, ht⟩) (fun _ h9 => by cases h9) dX5_partOf_64
          · skip
            refine lv_iload hx hb dX5_partOf_25 (lv_at hl 4 rfl) ?_
            refine lv_if_lt (tgt := 52) hx hb dX5_partOf_27 (by decide) (fun c27 => ?_) (fun c27 => ?_)
            · skip
              refine lv_iload hx hb dX5_partOf_52 (lv_at hl 4 rfl) ?_
              refine lv_iload hx hb dX5_partOf_54 (lv_at hl 5 rfl) ?_
              refine lv_icmp_ne (tgt := 63) hx hb dX5_partOf_56 (by decide) (fun c56 => ?_) (fun c56 => ?_)
              · skip
                refine lv_iload_n hx hb dX5_partOf_63 rfl (lv_at hl 3 rfl) ?_
                exact W.iret (v := nI pp) hx hb hr (fun t ht hW => ⟨nI pp, rfl, by first | rfl | trivial | omega | assumption, ht⟩) (fun _ h9 => by cases h9) dX5_partOf_64
              · skip
                refine lv_iconst (v := (-1 : Int32)) hx hb dX5_partOf_59 (by decide) ?_
                refine lv_goto (tgt := 64) hx hb dX5_partOf_60 (by decide) ?_
                exact W.iret (v := (-1 : Int32)) hx hb hr (fun t ht hW => ⟨(-1 : Int32), rfl, by first | rfl | trivial | omega | assumption, ht⟩) (fun _ h9 => by cases h9) dX5_partOf_64
            · skip
              have hp27 := h1 c27
              refine lv_iinc (v := nI (pp + 1)) (lv' := [(3, .int (nI (pp + 1))), (0, .ref (h 0)), (1, .int a), (2, .int b), (4, .int x), (5, .int y)]) hx hb dX5_partOf_30 hl (k := 3) rfl (nI_1 pp) (by decide) rfl (fun ls hl => ?_)
              refine lv_aload_n hx hb dX5_partOf_33 rfl (lv_at hl 1 rfl) ?_
              refine lv_iload_n hx hb dX5_partOf_34 rfl (lv_at hl 2 rfl) ?_
              refine lv_iload_n hx hb dX5_partOf_35 rfl (lv_at hl 0 rfl) ?_
              refine cRi (w := mw G h u lt sj) (As := [.int a, .int (nI (pp + 1))]) (rest := []) ⟨hx, hb, hml, hown, hts⟩ (mt_X5_lineAt l G h u lt sj nl a (pp + 1) (hnl) (by first | assumption | omega) (by first | assumption | omega)) (cwV 2 hts gX5_partOf_X5_lineAt rfl rfl rfl (by decide +kernel) ⟨Nat.le_of_ble_eq_true rfl, Nat.le_of_ble_eq_true rfl⟩) hK hN hP 0 5 rfl rfl rfl hl.1 rfl (Nat.le_of_ble_eq_true rfl) ⟨Nat.zero_le _, Nat.zero_le _⟩ dX5_partOf_36 (fun r36 hw36 => ?_)
              rcases hw36 with ⟨i36, hi36, hp36, hq36, rfl⟩ | ⟨hq36, rfl⟩
              · skip
                refine lv_istore (lv' := [(4, .int (nI (i36))), (3, .int (nI (pp + 1))), (0, .ref (h 0)), (1, .int a), (2, .int b), (5, .int y)]) hx hb dX5_partOf_39 hl (by decide) rfl (fun ls hl => ?_)
                refine lv_aload_n hx hb dX5_partOf_41 rfl (lv_at hl 2 rfl) ?_
                refine lv_iload_n hx hb dX5_partOf_42 rfl (lv_at hl 4 rfl) ?_
                refine lv_iload_n hx hb dX5_partOf_43 rfl (lv_at hl 1 rfl) ?_
                refine cRi (w := mw G h u lt sj) (As := [.int b, .int (nI (pp + 1))]) (rest := []) ⟨hx, hb, hml, hown, hts⟩ (mt_X5_lineAt l G h u lt sj nl b (pp + 1) (hnl) (by first | assumption | omega) (by first | assumption | omega)) (cwV 2 hts gX5_partOf_X5_lineAt rfl rfl rfl (by decide +kernel) ⟨Nat.le_of_ble_eq_true rfl, Nat.le_of_ble_eq_true rfl⟩) hK hN hP 0 5 rfl rfl rfl hl.1 rfl (Nat.le_of_ble_eq_true rfl) ⟨Nat.zero_le _, Nat.zero_le _⟩ dX5_partOf_44 (fun r44 hw44 => ?_)
                rcases hw44 with ⟨i44, hi44, hp44, hq44, rfl⟩ | ⟨hq44, rfl⟩
                · skip
                  refine lv_istore (lv' := [(5, .int (nI (i44))), (4, .int (nI (i36))), (3, .int (nI (pp + 1))), (0, .ref (h 0)), (1, .int a), (2, .int b)]) hx hb dX5_partOf_47 hl (by decide) rfl (fun ls hl => ?_)
                  refine lv_goto (tgt := 18) hx hb dX5_partOf_49 (by decide) ?_
                  exact ih18 (pp + 1) (nI (i36)) (nI (i44)) (by first | (intro q; exact absurd (by decide) q) | (intro _; have := cnt_le (sdb (u.2 6) (u.2 7) a) i36; omega)) (by first | assumption | omega) (by omega) ls (lv_sub hl [3, 4, 5, 2, 1, 0] rfl)
                · skip
                  refine lv_istore (lv' := [(5, .int (-1 : Int32)), (4, .int (nI (i36))), (3, .int (nI (pp + 1))), (0, .ref (h 0)), (1, .int a), (2, .int b)]) hx hb dX5_partOf_47 hl (by decide) rfl (fun ls hl => ?_)
                  refine lv_goto (tgt := 18) hx hb dX5_partOf_49 (by decide) ?_
                  exact ih18 (pp + 1) (nI (i36)) (-1 : Int32) (by first | (intro q; exact absurd (by decide) q) | (intro _; have := cnt_le (sdb (u.2 6) (u.2 7) a) i36; omega)) (by first | assumption | omega) (by omega) ls (lv_sub hl [3, 4, 5, 2, 1, 0] rfl)
              · skip
                refine lv_istore (lv' := [(4, .int (-1 : Int32)), (3, .int (nI (pp + 1))), (0, .ref (h 0)), (1, .int a), (2, .int b), (5, .int y)]) hx hb dX5_partOf_39 hl (by decide) rfl (fun ls hl => ?_)
                refine lv_aload_n hx hb dX5_partOf_41 rfl (lv_at hl 2 rfl) ?_
                refine lv_iload_n hx hb dX5_partOf_42 rfl (lv_at hl 4 rfl) ?_
                refine lv_iload_n hx hb dX5_partOf_43 rfl (lv_at hl 1 rfl) ?_
                refine cRi (w := mw G h u lt sj) (As := [.int b, .int (nI (pp + 1))]) (rest := []) ⟨hx, hb, hml, hown, hts⟩ (mt_X5_lineAt l G h u lt sj nl b (pp + 1) (hnl) (by first | assumption | omega) (by first | assumption | omega)) (cwV 2 hts gX5_partOf_X5_lineAt rfl rfl rfl (by decide +kernel) ⟨Nat.le_of_ble_eq_true rfl, Nat.le_of_ble_eq_true rfl⟩) hK hN hP 0 5 rfl rfl rfl hl.1 rfl (Nat.le_of_ble_eq_true rfl) ⟨Nat.zero_le _, Nat.zero_le _⟩ dX5_partOf_44 (fun r44 hw44 => ?_)
                rcases hw44 with ⟨i44, hi44, hp44, hq44, rfl⟩ | ⟨hq44, rfl⟩
                · skip
                  refine lv_istore (lv' := [(5, .int (nI (i44))), (4, .int (-1 : Int32)), (3, .int (nI (pp + 1))), (0, .ref (h 0)), (1, .int a), (2, .int b)]) hx hb dX5_partOf_47 hl (by decide) rfl (fun ls hl => ?_)
                  refine lv_goto (tgt := 18) hx hb dX5_partOf_49 (by decide) ?_
                  exact ih18 (pp + 1) (-1 : Int32) (nI (i44)) (by first | (intro q; exact absurd (by decide) q) | (intro _; have := cnt_le (sdb (u.2 6) (u.2 7) a) i36; omega)) (by first | assumption | omega) (by omega) ls (lv_sub hl [3, 4, 5, 2, 1, 0] rfl)
                · skip
                  refine lv_istore (lv' := [(5, .int (-1 : Int32)), (4, .int (-1 : Int32)), (3, .int (nI (pp + 1))), (0, .ref (h 0)), (1, .int a), (2, .int b)]) hx hb dX5_partOf_47 hl (by decide) rfl (fun ls hl => ?_)
                  refine lv_goto (tgt := 18) hx hb dX5_partOf_49 (by decide) ?_
                  exact ih18 (pp + 1) (-1 : Int32) (-1 : Int32) (by first | (intro q; exact absurd (by decide) q) | (intro _; have := cnt_le (sdb (u.2 6) (u.2 7) a) i36; omega)) (by first | assumption | omega) (by omega) ls (lv_sub hl [3, 4, 5, 2, 1, 0] rfl)
      exact LP18 (nl + 1 - 0 + 1) 0 (-1 : Int32) (nI (i13)) (by first | (intro q; exact absurd (by decide) q) | (intro _; have := cnt_le (sdb (u.2 6) (u.2 7) a) i5; omega)) (by first | assumption | omega) (Nat.lt_succ_self _) ls (lv_sub hl [3, 4, 5, 2, 1, 0] rfl)
    · skip
      refine lv_istore (lv' := [(5, .int (-1 : Int32)), (4, .int (-1 : Int32)), (3, .int (nI 0)), (0, .ref (h 0)), (1, .int a), (2, .int b)]) hx hb dX5_partOf_16 hl (by decide) rfl (fun ls hl => ?_)
      have LP18 : ∀ (n18m : Nat), ∀ (pp : Nat) (x : Int32) (y : Int32) (h1 : ¬ x < 0 → pp < nl) (hpp : pp ≤ nl), (nl + 1 - pp < n18m) → ∀ (ls : Array Slot), lv_has ls 6 [(0, .ref (h 0)), (1, .int a), (2, .int b), (3, .int (nI pp)), (4, .int x), (5, .int y)] → W p l e (headSpec wsX5_partOf ({ frames := 3, cells := 0, slots := 0, locals := 67 })).room s m ([.ref (h 0), .int a, .int b] : List Value).toArray below meth c s.heap [] 0 0 (MQ below (vp_Si (fun r : Int32 => True)) ([.ref (h 0), .int a, .int b] : List Value).toArray s 0 0 (fun _ => False)) (F0 m 18 ls []) := by
        intro n18m
        induction n18m with
        | zero => intro pp x y h1 hpp hmu ls hl; exact absurd hmu (Nat.not_lt_zero _)
        | succ n18m ih18 =>
          intro pp x y h1 hpp hmu ls hl
          refine lv_iload hx hb dX5_partOf_18 (lv_at hl 4 rfl) ?_
          refine lv_iload hx hb dX5_partOf_20 (lv_at hl 5 rfl) ?_
          refine lv_icmp_ne (tgt := 52) hx hb dX5_partOf_22 (by decide) (fun c22 => ?_) (fun c22 => ?_)
          · skip
            refine lv_iload hx hb dX5_partOf_52 (lv_at hl 4 rfl) ?_
            refine lv_iload hx hb dX5_partOf_54 (lv_at hl 5 rfl) ?_
            refine lv_icmp_ne (tgt := 63) hx hb dX5_partOf_56 (by decide) (fun c56 => ?_) (fun c56 => ?_)
            · skip
              refine lv_iload_n hx hb dX5_partOf_63 rfl (lv_at hl 3 rfl) ?_
              exact W.iret (v := nI pp) hx hb hr (fun t ht hW => ⟨nI pp, rfl, by first | rfl | trivial | omega | assumption, ht⟩) (fun _ h9 => by cases h9) dX5_partOf_64
            · skip
              refine lv_iconst (v := (-1 : Int32)) hx hb dX5_partOf_59 (by decide) ?_
              refine lv_goto (tgt := 64) hx hb dX5_partOf_60 (by decide) ?_
              exact W.iret (v := (-1 : Int32)) hx hb hr (fun t ht hW => ⟨(-1 : Int32), rfl, by first | rfl | trivial | omega | assumption, ht⟩) (fun _ h9 => by cases h9) dX5_partOf_64
          · skip
            refine lv_iload hx hb dX5_partOf_25 (lv_at hl 4 rfl) ?_
            refine lv_if_lt (tgt := 52) hx hb dX5_partOf_27 (by decide) (fun c27 => ?_) (fun c27 => ?_)
            · skip
              refine lv_iload hx hb dX5_partOf_52 (lv_at hl 4 rfl) ?_
              refine lv_iload hx hb dX5_partOf_54 (lv_at hl 5 rfl) ?_
              refine lv_icmp_ne (tgt := 63) hx hb dX5_partOf_56 (by decide) (fun c56 => ?_) (fun c56 => ?_)
              · skip
                refine lv_iload_n hx hb dX5_partOf_63 rfl (lv_at hl 3 rfl) ?_
                exact W.iret (v := nI pp) hx hb hr (fun t ht hW => ⟨nI pp, rfl, by first | rfl | trivial | omega | assumption, ht⟩) (fun _ h9 => by cases h9) dX5_partOf_64
              · skip
                refine lv_iconst (v := (-1 : Int32)) hx hb dX5_partOf_59 (by decide) ?_
                refine lv_goto (tgt := 64) hx hb dX5_partOf_60 (by decide) ?_
                exact W.iret (v := (-1 : Int32)) hx hb hr (fun t ht hW => ⟨(-1 : Int32), rfl, by first | rfl | trivial | omega | assumption, ht⟩) (fun _ h9 => by cases h9) dX5_partOf_64
            · skip
              have hp27 := h1 c27
              refine lv_iinc (v := nI (pp + 1)) (lv' := [(3, .int (nI (pp + 1))), (0, .ref (h 0)), (1, .int a), (2, .int b), (4, .int x), (5, .int y)]) hx hb dX5_partOf_30 hl (k := 3) rfl (nI_1 pp) (by decide) rfl (fun ls hl => ?_)
              refine lv_aload_n hx hb dX5_partOf_33 rfl (lv_at hl 1 rfl) ?_
              refine lv_iload_n hx hb dX5_partOf_34 rfl (lv_at hl 2 rfl) ?_
              refine lv_iload_n hx hb dX5_partOf_35 rfl (lv_at hl 0 rfl) ?_
              refine cRi (w := mw G h u lt sj) (As := [.int a, .int (nI (pp + 1))]) (rest := []) ⟨hx, hb, hml, hown, hts⟩ (mt_X5_lineAt l G h u lt sj nl a (pp + 1) (hnl) (by first | assumption | omega) (by first | assumption | omega)) (cwV 2 hts gX5_partOf_X5_lineAt rfl rfl rfl (by decide +kernel) ⟨Nat.le_of_ble_eq_true rfl, Nat.le_of_ble_eq_true rfl⟩) hK hN hP 0 5 rfl rfl rfl hl.1 rfl (Nat.le_of_ble_eq_true rfl) ⟨Nat.zero_le _, Nat.zero_le _⟩ dX5_partOf_36 (fun r36 hw36 => ?_)
              rcases hw36 with ⟨i36, hi36, hp36, hq36, rfl⟩ | ⟨hq36, rfl⟩
              · skip
                refine lv_istore (lv' := [(4, .int (nI (i36))), (3, .int (nI (pp + 1))), (0, .ref (h 0)), (1, .int a), (2, .int b), (5, .int y)]) hx hb dX5_partOf_39 hl (by decide) rfl (fun ls hl => ?_)
                refine lv_aload_n hx hb dX5_partOf_41 rfl (lv_at hl 2 rfl) ?_
                refine lv_iload_n hx hb dX5_partOf_42 rfl (lv_at hl 4 rfl) ?_
                refine lv_iload_n hx hb dX5_partOf_43 rfl (lv_at hl 1 rfl) ?_
                refine cRi (w := mw G h u lt sj) (As := [.int b, .int (nI (pp + 1))]) (rest := []) ⟨hx, hb, hml, hown, hts⟩ (mt_X5_lineAt l G h u lt sj nl b (pp + 1) (hnl) (by first | assumption | omega) (by first | assumption | omega)) (cwV 2 hts gX5_partOf_X5_lineAt rfl rfl rfl (by decide +kernel) ⟨Nat.le_of_ble_eq_true rfl, Nat.le_of_ble_eq_true rfl⟩) hK hN hP 0 5 rfl rfl rfl hl.1 rfl (Nat.le_of_ble_eq_true rfl) ⟨Nat.zero_le _, Nat.zero_le _⟩ dX5_partOf_44 (fun r44 hw44 => ?_)
                rcases hw44 with ⟨i44, hi44, hp44, hq44, rfl⟩ | ⟨hq44, rfl⟩
                · skip
                  refine lv_istore (lv' := [(5, .int (nI (i44))), (4, .int (nI (i36))), (3, .int (nI (pp + 1))), (0, .ref (h 0)), (1, .int a), (2, .int b)]) hx hb dX5_partOf_47 hl (by decide) rfl (fun ls hl => ?_)
                  refine lv_goto (tgt := 18) hx hb dX5_partOf_49 (by decide) ?_
                  exact ih18 (pp + 1) (nI (i36)) (nI (i44)) (by first | (intro q; exact absurd (by decide) q) | (intro _; have := cnt_le (sdb (u.2 6) (u.2 7) a) i36; omega)) (by first | assumption | omega) (by omega) ls (lv_sub hl [3, 4, 5, 2, 1, 0] rfl)
                · skip
                  refine lv_istore (lv' := [(5, .int (-1 : Int32)), (4, .int (nI (i36))), (3, .int (nI (pp + 1))), (0, .ref (h 0)), (1, .int a), (2, .int b)]) hx hb dX5_partOf_47 hl (by decide) rfl (fun ls hl => ?_)
                  refine lv_goto (tgt := 18) hx hb dX5_partOf_49 (by decide) ?_
                  exact ih18 (pp + 1) (nI (i36)) (-1 : Int32) (by first | (intro q; exact absurd (by decide) q) | (intro _; have := cnt_le (sdb (u.2 6) (u.2 7) a) i36; omega)) (by first | assumption | omega) (by omega) ls (lv_sub hl [3, 4, 5, 2, 1, 0] rfl)
              · skip
                refine lv_istore (lv' := [(4, .int (-1 : Int32)), (3, .int (nI (pp + 1))), (0, .ref (h 0)), (1, .int a), (2, .int b), (5, .int y)]) hx hb dX5_partOf_39 hl (by decide) rfl (fun ls hl => ?_)
                refine lv_aload_n hx hb dX5_partOf_41 rfl (lv_at hl 2 rfl) ?_
                refine lv_iload_n hx hb dX5_partOf_42 rfl (lv_at hl 4 rfl) ?_
                refine lv_iload_n hx hb dX5_partOf_43 rfl (lv_at hl 1 rfl) ?_
                refine cRi (w := mw G h u lt sj) (As := [.int b, .int (nI (pp + 1))]) (rest := []) ⟨hx, hb, hml, hown, hts⟩ (mt_X5_lineAt l G h u lt sj nl b (pp + 1) (hnl) (by first | assumption | omega) (by first | assumption | omega)) (cwV 2 hts gX5_partOf_X5_lineAt rfl rfl rfl (by decide +kernel) ⟨Nat.le_of_ble_eq_true rfl, Nat.le_of_ble_eq_true rfl⟩) hK hN hP 0 5 rfl rfl rfl hl.1 rfl (Nat.le_of_ble_eq_true rfl) ⟨Nat.zero_le _, Nat.zero_le _⟩ dX5_partOf_44 (fun r44 hw44 => ?_)
                rcases hw44 with ⟨i44, hi44, hp44, hq44, rfl⟩ | ⟨hq44, rfl⟩
                · skip
                  refine lv_istore (lv' := [(5, .int (nI (i44))), (4, .int (-1 : Int32)), (3, .int (nI (pp + 1))), (0, .ref (h 0)), (1, .int a), (2, .int b)]) hx hb dX5_partOf_47 hl (by decide) rfl (fun ls hl => ?_)
                  refine lv_goto (tgt := 18) hx hb dX5_partOf_49 (by decide) ?_
                  exact ih18 (pp + 1) (-1 : Int32) (nI (i44)) (by first | (intro q; exact absurd (by decide) q) | (intro _; have := cnt_le (sdb (u.2 6) (u.2 7) a) i36; omega)) (by first | assumption | omega) (by omega) ls (lv_sub hl [3, 4, 5, 2, 1, 0] rfl)
                · skip
                  refine lv_istore (lv' := [(5, .int (-1 : Int32)), (4, .int (-1 : Int32)), (3, .int (nI (pp + 1))), (0, .ref (h 0)), (1, .int a), (2, .int b)]) hx hb dX5_partOf_47 hl (by decide) rfl (fun ls hl => ?_)
                  refine lv_goto (tgt := 18) hx hb dX5_partOf_49 (by decide) ?_
                  exact ih18 (pp + 1) (-1 : Int32) (-1 : Int32) (by first | (intro q; exact absurd (by decide) q) | (intro _; have := cnt_le (sdb (u.2 6) (u.2 7) a) i36; omega)) (by first | assumption | omega) (by omega) ls (lv_sub hl [3, 4, 5, 2, 1, 0] rfl)
      exact LP18 (nl + 1 - 0 + 1) 0 (-1 : Int32) (-1 : Int32) (by first | (intro q; exact absurd (by decide) q) | (intro _; have := cnt_le (sdb (u.2 6) (u.2 7) a) i5; omega)) (by first | assumption | omega) (Nat.lt_succ_self _) ls (lv_sub hl [3, 4, 5, 2, 1, 0] rfl)
set_option maxHeartbeats 1000000 in
set_option maxRecDepth 100000 in
theorem mt_X5_share (l : Launch) (G : gG) (h : Nat → Nat) (sz : Nat) (u : oS) (lt : Int64) (sj : Nat → Int64) (a : Int32) (b : Int32) (nv nl nt nh : Nat) (hI : MIx u nv nl nt nh) : Met l yX5_share wsX5_share ({ frames := 2, cells := 0, slots := 0, locals := 46 }) (preW G (mw G h u lt sj) sz [.ref (h 0), .int a, .int b]) (va_Qi (fun (r : Int32) (v : oS × Int64 × (Nat → Int64)) => MIk u v.1) (fun v t => PP G (mw G h v.1 v.2.1 v.2.2) t.heap) (va_A (mw G h u lt sj) sz)) 0 0 (va_A (mw G h u lt sj) sz) := by
  refine Met.ofW (cc := cX5_share) (maxL := 6) (ret := (some .int)) (by decide) rfl ?_
  intro p e s m args below meth c s₁ B hml hv
  obtain ⟨ha, hsz, hP, hK, hN, hD0⟩ := hv
  subst ha
  have hx := B.exec
  have hb := B.bytes
  have hr := B.returns
  have hts := atoms_spec (ws := wsX5_share) B.pre
  have hown : s.vm.findClass RX5 = some m.cls := findClass_of_methodNamed B.named
  have hlocks := B.notSynchronized
  subst hsz
  have hD := hD0.self (sz := s.heap.size)
  generalize hAe : va_A (mw G h u lt sj) s.heap.size = A at hD ⊢
  have hA : ∀ q : Nat, s.heap.size ≤ q → A q := fun q h => by rw [← hAe]; exact Or.inr h
  clear hAe hD0
  have hS : va_S A s.heap s.heap [] := va_S.rf
  have hiX5 : ∀ w ∈ wsX50, w ∈ wsX5_share := by decide +kernel
  have k175 := hts (.fieldLink RX5 175 "WovenHistoryModel" "lines" "I") (List.mem_of_getElem? (i := 2) rfl)
  have k22 := hts (.fieldLink RX5 22 "WovenHistoryModel" "brought" "[I") (List.mem_of_getElem? (i := 3) rfl)
  have hl := lv_entry ([.ref (h 0), .int a, .int b]) (n := 6) (Nat.le_of_ble_eq_true rfl)
  rw [lg_entry_eq]
  generalize (lg_sl ([.ref (h 0), .int a, .int b]) ++ List.replicate (6 - (lg_sl ([.ref (h 0), .int a, .int b])).length) Slot.unset).toArray = ls at hl ⊢
  have hl : lv_has ls 6 [(0, .ref (h 0)), (1, .int a), (2, .int b)] := hl
  have hI0 := hI
  obtain ⟨hnv, hnl, hnt, hnh, hnv24, hnl120, hnt240, hnh120, hop, hopn, hparV, hsz4, himg⟩ := hI
  refine lv_aload_n hx hb dX5_share_0 rfl (lv_at hl 0 rfl) ?_
  refine lv_iload_n hx hb dX5_share_1 rfl (lv_at hl 1 rfl) ?_
  refine cRi (w := mw G h u lt sj) (As := [.int a]) (rest := []) ⟨hx, hb, hml, hown, hts⟩ (mt_X5_isVersion l G h u lt sj nv a (hnv) (by first | assumption | omega)) (cwV 1 hts gX5_share_X5_isVersion rfl rfl rfl (by decide +kernel) ⟨Nat.le_of_ble_eq_true rfl, Nat.le_of_ble_eq_true rfl⟩) hK hN hP 0 5 rfl rfl rfl hl.1 rfl (Nat.le_of_ble_eq_true rfl) ⟨Nat.zero_le _, Nat.zero_le _⟩ dX5_share_2 (fun r2 hw2 => ?_)
  rcases hw2 with ⟨rfl, a1, ha1, rfl⟩ | ⟨rfl, hna1⟩
  · skip
    refine lv_if_eq (tgt := 16) hx hb dX5_share_5 (by decide) (fun c9 => absurd c9 (by decide)) (fun _ => ?_)
    refine lv_aload_n hx hb dX5_share_8 rfl (lv_at hl 0 rfl) ?_
    refine lv_iload_n hx hb dX5_share_9 rfl (lv_at hl 2 rfl) ?_
    refine cRi (w := mw G h u lt sj) (As := [.int b]) (rest := []) ⟨hx, hb, hml, hown, hts⟩ (mt_X5_isVersion l G h u lt sj nv b (hnv) (by first | assumption | omega)) (cwV 1 hts gX5_share_X5_isVersion rfl rfl rfl (by decide +kernel) ⟨Nat.le_of_ble_eq_true rfl, Nat.le_of_ble_eq_true rfl⟩) hK hN hP 0 5 rfl rfl rfl hl.1 rfl (Nat.le_of_ble_eq_true rfl) ⟨Nat.zero_le _, Nat.zero_le _⟩ dX5_share_10 (fun r10 hw10 => ?_)
    rcases hw10 with ⟨rfl, b1, hb1, rfl⟩ | ⟨rfl, hnb1⟩
    · skip
      refine lv_if_ne (tgt := 19) hx hb dX5_share_13 (by decide) (fun _ => ?_) (fun c9 => absurd c9 (by decide))
      refine lv_aload_n hx hb dX5_share_19 rfl (lv_at hl 0 rfl) ?_
      refine lv_iload_n hx hb dX5_share_20 rfl (lv_at hl 1 rfl) ?_
      have hP := mw_self26 hP
      have hD : va_D A (mw G h (oA u 26 (u.2 26)) lt sj) := mw_self26D hD
      refine cXi (As := [.int (nI a1)]) (rest := []) (S := oS × Int64 × (Nat → Int64)) (wa := mw G h (oA u 26 (u.2 26)) lt sj) (w1 := fun v => mw G h v.1 v.2.1 v.2.2) ⟨hx, hb, hml, hown, hts⟩ (mt_X5_changesOf l G h _ u lt sj (u.2 26) a1 (by first | assumption | omega) (hparV.le (by omega))) (cwV 1 hts gX5_share_X5_changesOf rfl rfl rfl (by decide +kernel) ⟨Nat.le_of_ble_eq_true rfl, Nat.le_of_ble_eq_true rfl⟩) hK hN hP hD hS hA (fun _ => rfl) 0 5 rfl rfl rfl hl.1 rfl (Nat.le_of_ble_eq_true rfl) ⟨Nat.zero_le _, Nat.zero_le _⟩ dX5_share_21 (fun r21 u21 H locs hw21 hP hD hS => ?_)
      obtain ⟨g21, rfl, rfl⟩ := hw21
      have hP : PP G (mw G h (oA u 26 g21) lt sj) H := hP
      have hD : va_D A (mw G h (oA u 26 g21) lt sj) := hD
      refine lv_istore_n (lv' := [(3, .int (chV (u.2 1) (u.2 2) (u.2 3) (nI a1))), (0, .ref (h 0)), (1, .int (nI a1)), (2, .int (nI b1))]) hx hb dX5_share_24 rfl hl (by decide) rfl (fun ls hl => ?_)
      refine lv_iconst (v := nI 0) hx hb dX5_share_25 (by decide) ?_
      refine lv_istore (lv' := [(4, .int (nI 0)), (3, .int (chV (u.2 1) (u.2 2) (u.2 3) (nI a1))), (0, .ref (h 0)), (1, .int (nI a1)), (2, .int (nI b1))]) hx hb dX5_share_26 hl (by decide) rfl (fun ls hl => ?_)
      refine lv_iconst (v := nI 0) hx hb dX5_share_28 (by decide) ?_
      refine lv_istore (lv' := [(5, .int (nI 0)), (4, .int (nI 0)), (3, .int (chV (u.2 1) (u.2 2) (u.2 3) (nI a1))), (0, .ref (h 0)), (1, .int (nI a1)), (2, .int (nI b1))]) hx hb dX5_share_29 hl (by decide) rfl (fun ls hl => ?_)
      have LP31 : ∀ (n31m : Nat), ∀ (k : Nat) (j : Nat) (hk : k ≤ nl) (hj2 : j ≤ k), (nl - k < n31m) → ∀ (H : Heap) (locs : List Loc) (ls : Array Slot), PP G (mw G h (oA u 26 g21) lt sj) H → va_D A (mw G h (oA u 26 g21) lt sj) → va_S A s.heap H locs → lv_has ls 6 [(0, .ref (h 0)), (2, .int (nI b1)), (3, .int (chV (u.2 1) (u.2 2) (u.2 3) (nI a1))), (4, .int (nI j)), (5, .int (nI k))] → W p l e (headSpec wsX5_share ({ frames := 2, cells := 0, slots := 0, locals := 46 })).room s m ([.ref (h 0), .int (nI a1), .int (nI b1)] : List Value).toArray below meth c H locs 0 0 (MQ below (va_Qi (fun (r : Int32) (v : oS × Int64 × (Nat → Int64)) => MIk u v.1) (fun v t => PP G (mw G h v.1 v.2.1 v.2.2) t.heap) A) ([.ref (h 0), .int (nI a1), .int (nI b1)] : List Value).toArray s 0 0 A) (F0 m 31 ls []) := by
        intro n31m
        induction n31m with
        | zero => intro k j hk hj2 hmu H locs ls hP hD hS hl; exact absurd hmu (Nat.not_lt_zero _)
        | succ n31m ih31 =>
          intro k j hk hj2 hmu H locs ls hP hD hS hl
          refine lv_iload hx hb dX5_share_31 (lv_at hl 4 rfl) ?_
          refine lv_aload_n hx hb dX5_share_33 rfl (lv_at hl 0 rfl) ?_
          refine va_get (D := gD G) (ci := 5) (v := .int (u.1 4)) (C := RX5) (T := TX5) (N := 38) hx hb hts hiX5 hown hK hP 0 rfl rfl 4 (by decide) k175 (fun _ h9 => h9) rfl dX5_share_34 ?_
          refine topE hnl ?_
          refine lv_icmp_ge (tgt := 77) hx hb dX5_share_37 (by decide) (fun c37 => ?_) (fun c37 => ?_)
          · skip
            have n37 : nl ≤ k := (nI_leI (a := nl) (b := k) (by omega) (by omega)).mp c37
            refine lv_iload hx hb dX5_share_77 (lv_at hl 3 rfl) ?_
            exact W.iret (v := nI j) hx hb hr (fun t ht hW => ⟨⟨nI j, (oA u 26 g21, lt, sj), rfl, ⟨⟨nv, nl, nt, nh, hI0⟩, ⟨rfl, rfl, rfl⟩, rfl, rfl⟩, show PP G (mw G h (oA u 26 g21) lt sj) t.heap by rw [ht]; exact hP⟩, hS.F ht⟩) hS.2.2 dX5_share_79
          · skip
            have n37 : ¬ (nl ≤ k) := fun q9 => c37 ((nI_leI (a := nl) (b := k) (by omega) (by omega)).mpr q9)
            refine lv_iload hx hb dX5_share_40 (lv_at hl 3 rfl) ?_
            refine lv_aload_n hx hb dX5_share_42 rfl (lv_at hl 0 rfl) ?_
            refine lv_iload hx hb dX5_share_43 (lv_at hl 4 rfl) ?_
            refine lv_iload_n hx hb dX5_share_45 rfl (lv_at hl 2 rfl) ?_
            refine cRi (w := mw G h (oA u 26 g21) lt sj) (As := [.int (nI k), .int (chV (u.2 1) (u.2 2) (u.2 3) (nI a1))]) (rest := [.int (nI j)]) ⟨hx, hb, hml, hown, hts⟩ (mt_X5_stands l G h (oA u 26 g21) lt sj k (chV (u.2 1) (u.2 2) (u.2 3) (nI a1)) (by first | assumption | omega)) (cwV 2 hts gX5_share_X5_stands rfl rfl rfl (by decide +kernel) ⟨Nat.le_of_ble_eq_true rfl, Nat.le_of_ble_eq_true rfl⟩) hK hN hP 0 5 rfl rfl rfl hl.1 rfl (Nat.le_of_ble_eq_true rfl) ⟨Nat.zero_le _, Nat.zero_le _⟩ dX5_share_46 (fun r46 hw46 => ?_)
            rcases hw46 with ⟨rfl, hy46⟩ | ⟨rfl, hn46⟩
            · skip
              refine lv_if_eq (tgt := 67) hx hb dX5_share_49 (by decide) (fun c9 => absurd c9 (by decide)) (fun _ => ?_)
              refine lv_aload_n hx hb dX5_share_52 rfl (lv_at hl 0 rfl) ?_
              refine va_get (D := gD G) (ci := 5) (v := .ref (h 6)) (C := RX5) (T := TX5) (N := 38) hx hb hts hiX5 hown hK hP 0 rfl rfl 6 (by decide) k22 (fun _ h9 => h9) rfl dX5_share_53 ?_
              refine lv_iload hx hb dX5_share_56 (lv_at hl 4 rfl) ?_
              refine ialdN (f := u.2 6) (n := 120) (k := k) hx hb hK hP 5 rfl rfl (by omega) dX5_share_58 ?_
              refine lv_iload_n hx hb dX5_share_59 rfl (lv_at hl 1 rfl) ?_
              refine lv_icmp_ne (tgt := 67) hx hb dX5_share_60 (by decide) (fun c60 => ?_) (fun c60 => ?_)
              · skip
                refine lv_iconst (v := nI 0) hx hb dX5_share_67 (by decide) ?_
                refine lv_iadd hx hb dX5_share_68 ?_
                refine topE (y := nI (j + 0)) (nI_add j 0) ?_
                refine lv_istore (lv' := [(4, .int (nI (j + 0))), (0, .ref (h 0)), (2, .int (nI b1)), (3, .int (chV (u.2 1) (u.2 2) (u.2 3) (nI a1))), (5, .int (nI k))]) hx hb dX5_share_69 hl (by decide) rfl (fun ls hl => ?_)
                refine lv_iinc (v := nI (k + 1)) (lv' := [(5, .int (nI (k + 1))), (4, .int (nI (j + 0))), (0, .ref (h 0)), (2, .int (nI b1)), (3, .int (chV (u.2 1) (u.2 2) (u.2 3) (nI a1)))]) hx hb dX5_share_71 hl (k := 4) rfl (nI_1 k) (by decide) rfl (fun ls hl => ?_)
                refine lv_goto (tgt := 31) hx hb dX5_share_74 (by decide) ?_
                exact ih31 (k + 1) (j + 0) (by first | assumption | omega) (by first | assumption | omega) (by omega) _ _ ls hP hD hS (lv_sub hl [2, 3, 4, 1, 0] rfl)
              · skip
                refine lv_iconst (v := nI 1) hx hb dX5_share_63 (by decide) ?_
                refine lv_goto (tgt := 68) hx hb dX5_share_64 (by decide) ?_
                refine lv_iadd hx hb dX5_share_68 ?_
                refine topE (y := nI (j + 1)) (nI_add j 1) ?_
                refine lv_istore (lv' := [(4, .int (nI (j + 1))), (0, .ref (h 0)), (2, .int (nI b1)), (3, .int (chV (u.2 1) (u.2 2) (u.2 3) (nI a1))), (5, .int (nI k))]) hx hb dX5_share_69 hl (by decide) rfl (fun ls hl => ?_)
                refine lv_iinc (v := nI (k + 1)) (lv' := [(5, .int (nI (k + 1))), (4, .int (nI (j + 1))), (0, .ref (h 0)), (2, .int (nI b1)), (3, .int (chV (u.2 1) (u.2 2) (u.2 3) (nI a1)))]) hx hb dX5_share_71 hl (k := 4) rfl (nI_1 k) (by decide) rfl (fun ls hl => ?_)
                refine lv_goto (tgt := 31) hx hb dX5_share_74 (by decide) ?_
                exact ih31 (k + 1) (j + 1) (by first | assumption | omega) (by first | assumption | omega) (by omega) _ _ ls hP hD hS (lv_sub hl [2, 3, 4, 1, 0] rfl)
            · skip
              refine lv_if_eq (tgt := 67) hx hb dX5_share_49 (by decide) (fun _ => ?_) (fun c9 => absurd (by decide) c9)
              refine lv_iconst (v := nI 0) hx hb dX5_share_67 (by decide) ?_
              refine lv_iadd hx hb dX5_share_68 ?_
              refine topE (y := nI (j + 0)) (nI_add j 0) ?_
              refine lv_istore (lv' := [(4, .int (nI (j + 0))), (0, .ref (h 0)), (2, .int (nI b1)), (3, .int (chV (u.2 1) (u.2 2) (u.2 3) (nI a1))), (5, .int (nI k))]) hx hb dX5_share_69 hl (by decide) rfl (fun ls hl => ?_)
              refine lv_iinc (v := nI (k + 1)) (lv' := [(5, .int (nI (k + 1))), (4, .int (nI (j + 0))), (0, .ref (h 0)), (2, .int (nI b1)), (3, .int (chV (u.2 1) (u.2 2) (u.2 3) (nI a1)))]) hx hb dX5_share_71 hl (k := 4) rfl (nI_1 k) (by decide) rfl (fun ls hl => ?_)
              refine lv_goto (tgt := 31) hx hb dX5_share_74 (by decide) ?_
              exact ih31 (k + 1) (j + 0) (by first | assumption | omega) (by first | assumption | omega) (by omega) _ _ ls hP hD hS (lv_sub hl [2, 3, 4, 1, 0] rfl)
      exact LP31 (nl - 0 + 1) 0 0 (by first | assumption | omega) (by first | assumption | omega) (Nat.lt_succ_self _) _ _ ls hP hD hS (lv_sub hl [3, 5, 2, 1, 0] rfl)
    · skip
      refine lv_if_ne (tgt := 19) hx hb dX5_share_13 (by decide) (fun c9 => absurd (by decide) c9) (fun _ => ?_)
      refine lv_ldc (v := (-1000000001 : Int32)) hx hb hown (hts (.constant RX5 216 (-1000000001)) (List.mem_of_getElem? (i := 1) rfl)) dX5_share_16 ?_
      exact W.iret (v := (-1000000001 : Int32)) hx hb hr (fun t ht hW => ⟨⟨(-1000000001 : Int32), (u, lt, sj), rfl, ⟨⟨nv, nl, nt, nh, hI0⟩, ⟨rfl, rfl, rfl⟩, rfl, rfl⟩, show PP G (mw G h u lt sj) t.heap by rw [ht]; exact hP⟩, hS.F ht⟩) hS.2.2 dX5_share_18
  · skip
    refine lv_if_eq (tgt := 16) hx hb dX5_share_5 (by decide) (fun _ => ?_) (fun c9 => absurd (by decide) c9)
    refine lv_ldc (v := (-1000000001 : Int32)) hx hb hown (hts (.constant RX5 216 (-1000000001)) (List.mem_of_getElem? (i := 1) rfl)) dX5_share_16 ?_
    exact W.iret (v := (-1000000001 : Int32)) hx hb hr (fun t ht hW => ⟨⟨(-1000000001 : Int32), (u, lt, sj), rfl, ⟨⟨nv, nl, nt, nh, hI0⟩, ⟨rfl, rfl, rfl⟩, rfl, rfl⟩, show PP G (mw G h u lt sj) t.heap by rw [ht]; exact hP⟩, hS.F ht⟩) hS.2.2 dX5_share_18
set_option maxHeartbeats 1000000 in
set_option maxRecDepth 100000 in
theorem mt_X5_alike (l : Launch) (G : gG) (h : Nat → Nat) (sz : Nat) (u : oS) (lt : Int64) (sj : Nat → Int64) (a : Int32) (b : Int32) (what : Int32) (nv nl nt nh : Nat) (hI : MIx u nv nl nt nh) : Met l yX5_alike wsX5_alike ({ frames := 4, cells := 0, slots := 0, locals := 92 }) (preW G (mw G h u lt sj) sz [.ref (h 0), .int a, .int b, .int what]) (va_Qi (fun (r : Int32) (v : oS × Int64 × (Nat → Int64)) => MIk u v.1) (fun v t => PP G (mw G h v.1 v.2.1 v.2.2) t.heap) (va_A (mw G h u lt sj) sz)) 0 0 (va_A (mw G h u lt sj) sz) := by
  refine Met.ofW (cc := cX5_alike) (maxL := 6) (ret := (some .int)) (by decide) rfl ?_
  intro p e s m args below meth c s₁ B hml hv
  obtain ⟨ha, hsz, hP, hK, hN, hD0⟩ := hv
  subst ha
  have hx := B.exec
  have hb := B.bytes
  have hr := B.returns
  have hts := atoms_spec (ws := wsX5_alike) B.pre
  have hown : s.vm.findClass RX5 = some m.cls := findClass_of_methodNamed B.named
  have hlocks := B.notSynchronized
  subst hsz
  have hD := hD0.self (sz := s.heap.size)
  generalize hAe : va_A (mw G h u lt sj) s.heap.size = A at hD ⊢
  have hA : ∀ q : Nat, s.heap.size ≤ q → A q := fun q h => by rw [← hAe]; exact Or.inr h
  clear hAe hD0
  have hS : va_S A s.heap s.heap [] := va_S.rf
  have hl := lv_entry ([.ref (h 0), .int a, .int b, .int what]) (n := 6) (Nat.le_of_ble_eq_true rfl)
  rw [lg_entry_eq]
  generalize (lg_sl ([.ref (h 0), .int a, .int b, .int what]) ++ List.replicate (6 - (lg_sl ([.ref (h 0), .int a, .int b, .int what])).length) Slot.unset).toArray = ls at hl ⊢
  have hl : lv_has ls 6 [(0, .ref (h 0)), (1, .int a), (2, .int b), (3, .int what)] := hl
  have hI0 := hI
  obtain ⟨hnv, hnl, hnt, hnh, hnv24, hnl120, hnt240, hnh120, hop, hopn, hparV, hsz4, himg⟩ := hI
  refine lv_aload_n hx hb dX5_alike_0 rfl (lv_at hl 0 rfl) ?_
  refine lv_iload_n hx hb dX5_alike_1 rfl (lv_at hl 1 rfl) ?_
  refine cRi (w := mw G h u lt sj) (As := [.int a]) (rest := []) ⟨hx, hb, hml, hown, hts⟩ (mt_X5_isVersion l G h u lt sj nv a (hnv) (by first | assumption | omega)) (cwV 1 hts gX5_alike_X5_isVersion rfl rfl rfl (by decide +kernel) ⟨Nat.le_of_ble_eq_true rfl, Nat.le_of_ble_eq_true rfl⟩) hK hN hP 0 5 rfl rfl rfl hl.1 rfl (Nat.le_of_ble_eq_true rfl) ⟨Nat.zero_le _, Nat.zero_le _⟩ dX5_alike_2 (fun r2 hw2 => ?_)
  rcases hw2 with ⟨rfl, a1, ha1, rfl⟩ | ⟨rfl, hna1⟩
  · skip
    refine lv_if_eq (tgt := 21) hx hb dX5_alike_5 (by decide) (fun c9 => absurd c9 (by decide)) (fun _ => ?_)
    refine lv_aload_n hx hb dX5_alike_8 rfl (lv_at hl 0 rfl) ?_
    refine lv_iload_n hx hb dX5_alike_9 rfl (lv_at hl 2 rfl) ?_
    refine cRi (w := mw G h u lt sj) (As := [.int b]) (rest := []) ⟨hx, hb, hml, hown, hts⟩ (mt_X5_isVersion l G h u lt sj nv b (hnv) (by first | assumption | omega)) (cwV 1 hts gX5_alike_X5_isVersion rfl rfl rfl (by decide +kernel) ⟨Nat.le_of_ble_eq_true rfl, Nat.le_of_ble_eq_true rfl⟩) hK hN hP 0 5 rfl rfl rfl hl.1 rfl (Nat.le_of_ble_eq_true rfl) ⟨Nat.zero_le _, Nat.zero_le _⟩ dX5_alike_10 (fun r10 hw10 => ?_)
    rcases hw10 with ⟨rfl, b1, hb1, rfl⟩ | ⟨rfl, hnb1⟩
    · skip
      refine lv_if_eq (tgt := 21) hx hb dX5_alike_13 (by decide) (fun c9 => absurd c9 (by decide)) (fun _ => ?_)
      refine lv_iload_n hx hb dX5_alike_16 rfl (lv_at hl 1 rfl) ?_
      refine lv_iload_n hx hb dX5_alike_17 rfl (lv_at hl 2 rfl) ?_
      refine lv_icmp_ne (tgt := 24) hx hb dX5_alike_18 (by decide) (fun c18 => ?_) (fun c18 => ?_)
      · skip
        have n18 : ¬ (a1 = b1) := fun q9 => c18 ((nI_eq (a := a1) (b := b1) (by omega) (by omega)).mpr q9)
        refine lv_aload_n hx hb dX5_alike_24 rfl (lv_at hl 0 rfl) ?_
        refine lv_iload_n hx hb dX5_alike_25 rfl (lv_at hl 1 rfl) ?_
        have hP := mw_self26 hP
        have hD : va_D A (mw G h (oA u 26 (u.2 26)) lt sj) := mw_self26D hD
        refine cXi (As := [.int (nI a1)]) (rest := []) (S := oS × Int64 × (Nat → Int64)) (wa := mw G h (oA u 26 (u.2 26)) lt sj) (w1 := fun v => mw G h v.1 v.2.1 v.2.2) ⟨hx, hb, hml, hown, hts⟩ (mt_X5_changesOf l G h _ u lt sj (u.2 26) a1 (by first | assumption | omega) (hparV.le (by omega))) (cwV 1 hts gX5_alike_X5_changesOf rfl rfl rfl (by decide +kernel) ⟨Nat.le_of_ble_eq_true rfl, Nat.le_of_ble_eq_true rfl⟩) hK hN hP hD hS hA (fun _ => rfl) 0 5 rfl rfl rfl hl.1 rfl (Nat.le_of_ble_eq_true rfl) ⟨Nat.zero_le _, Nat.zero_le _⟩ dX5_alike_26 (fun r26 u26 H locs hw26 hP hD hS => ?_)
        obtain ⟨g26, rfl, rfl⟩ := hw26
        have hP : PP G (mw G h (oA u 26 g26) lt sj) H := hP
        have hD : va_D A (mw G h (oA u 26 g26) lt sj) := hD
        refine lv_istore (lv' := [(4, .int (chV (u.2 1) (u.2 2) (u.2 3) (nI a1))), (0, .ref (h 0)), (1, .int (nI a1)), (2, .int (nI b1)), (3, .int what)]) hx hb dX5_alike_29 hl (by decide) rfl (fun ls hl => ?_)
        refine lv_aload_n hx hb dX5_alike_31 rfl (lv_at hl 1 rfl) ?_
        refine lv_iload_n hx hb dX5_alike_32 rfl (lv_at hl 3 rfl) ?_
        refine cXi (As := [.int (nI b1)]) (rest := []) (S := oS × Int64 × (Nat → Int64)) (wa := mw G h (oA u 26 g26) lt sj) (w1 := fun v => mw G h v.1 v.2.1 v.2.2) ⟨hx, hb, hml, hown, hts⟩ (mt_X5_changesOf l G h _ u lt sj g26 b1 (by first | assumption | omega) (hparV.le (by omega))) (cwV 1 hts gX5_alike_X5_changesOf rfl rfl rfl (by decide +kernel) ⟨Nat.le_of_ble_eq_true rfl, Nat.le_of_ble_eq_true rfl⟩) hK hN hP hD hS hA (fun _ => rfl) 0 5 rfl rfl rfl hl.1 rfl (Nat.le_of_ble_eq_true rfl) ⟨Nat.zero_le _, Nat.zero_le _⟩ dX5_alike_33 (fun r33 u33 H locs hw33 hP hD hS => ?_)
        obtain ⟨g33, rfl, rfl⟩ := hw33
        have hP : PP G (mw G h (oA u 26 g33) lt sj) H := hP
        have hD : va_D A (mw G h (oA u 26 g33) lt sj) := hD
        refine lv_istore (lv' := [(5, .int (chV (u.2 1) (u.2 2) (u.2 3) (nI b1))), (4, .int (chV (u.2 1) (u.2 2) (u.2 3) (nI a1))), (0, .ref (h 0)), (1, .int (nI a1)), (2, .int (nI b1)), (3, .int what)]) hx hb dX5_alike_36 hl (by decide) rfl (fun ls hl => ?_)
        refine lv_iload_n hx hb dX5_alike_38 rfl (lv_at hl 5 rfl) ?_
        by_cases q39_0 : what = 0
        · skip
          subst q39_0
          refine lv_tableIn (tgt := 68) hx hb dX5_alike_39 (by decide) (by decide) rfl (by decide) ?_
          refine lv_aload_n hx hb dX5_alike_68 rfl (lv_at hl 2 rfl) ?_
          refine lv_iload hx hb dX5_alike_69 (lv_at hl 1 rfl) ?_
          refine lv_iload hx hb dX5_alike_71 (lv_at hl 0 rfl) ?_
          refine cRi (w := mw G h (oA u 26 g33) lt sj) (As := [.int (chV (u.2 1) (u.2 2) (u.2 3) (nI a1)), .int (chV (u.2 1) (u.2 2) (u.2 3) (nI b1))]) (rest := []) ⟨hx, hb, hml, hown, hts⟩ (mt_X5_bothOf l G h (oA u 26 g33) lt sj nl (chV (u.2 1) (u.2 2) (u.2 3) (nI a1)) (chV (u.2 1) (u.2 2) (u.2 3) (nI b1)) (hnl) (by first | assumption | omega)) (cwV 2 hts gX5_alike_X5_bothOf rfl rfl rfl (by decide +kernel) ⟨Nat.le_of_ble_eq_true rfl, Nat.le_of_ble_eq_true rfl⟩) hK hN hP 0 5 rfl rfl rfl hl.1 rfl (Nat.le_of_ble_eq_true rfl) ⟨Nat.zero_le _, Nat.zero_le _⟩ dX5_alike_73 (fun r73 hw73 => ?_)
          obtain rfl := hw73
          have hc73 := cnt_le (fun i => sdb ((oA u 26 g33).2 6) ((oA u 26 g33).2 7) (chV (u.2 1) (u.2 2) (u.2 3) (nI a1)) i && sdb ((oA u 26 g33).2 6) ((oA u 26 g33).2 7) (chV (u.2 1) (u.2 2) (u.2 3) (nI b1)) i) nl
          exact W.iret (v := nI (cnt (fun i => sdb ((oA u 26 g33).2 6) ((oA u 26 g33).2 7) (chV (u.2 1) (u.2 2) (u.2 3) (nI a1)) i && sdb ((oA u 26 g33).2 6) ((oA u 26 g33).2 7) (chV (u.2 1) (u.2 2) (u.2 3) (nI b1)) i) nl)) hx hb hr (fun t ht hW => ⟨⟨nI (cnt (fun i => sdb ((oA u 26 g33).2 6) ((oA u 26 g33).2 7) (chV (u.2 1) (u.2 2) (u.2 3) (nI a1)) i && sdb ((oA u 26 g33).2 6) ((oA u 26 g33).2 7) (chV (u.2 1) (u.2 2) (u.2 3) (nI b1)) i) nl), (oA u 26 g33, lt, sj), rfl, ⟨⟨nv, nl, nt, nh, hI0⟩, ⟨rfl, rfl, rfl⟩, rfl, rfl⟩, show PP G (mw G h (oA u 26 g33) lt sj) t.heap by rw [ht]; exact hP⟩, hS.F ht⟩) hS.2.2 dX5_alike_76
        by_cases q39_1 : what = 1
        · skip
          subst q39_1
          refine lv_tableIn (tgt := 77) hx hb dX5_alike_39 (by decide) (by decide) rfl (by decide) ?_
          refine lv_aload_n hx hb dX5_alike_77 rfl (lv_at hl 2 rfl) ?_
          refine lv_iload hx hb dX5_alike_78 (lv_at hl 1 rfl) ?_
          refine cRi (w := mw G h (oA u 26 g33) lt sj) (As := [.int (chV (u.2 1) (u.2 2) (u.2 3) (nI a1))]) (rest := []) ⟨hx, hb, hml, hown, hts⟩ (mt_X5_manyOf l G h (oA u 26 g33) lt sj nl (chV (u.2 1) (u.2 2) (u.2 3) (nI a1)) (hnl) (by first | assumption | omega)) (cwV 1 hts gX5_alike_X5_manyOf rfl rfl rfl (by decide +kernel) ⟨Nat.le_of_ble_eq_true rfl, Nat.le_of_ble_eq_true rfl⟩) hK hN hP 0 5 rfl rfl rfl hl.1 rfl (Nat.le_of_ble_eq_true rfl) ⟨Nat.zero_le _, Nat.zero_le _⟩ dX5_alike_80 (fun r80 hw80 => ?_)
          obtain rfl := hw80
          have hc80 := cnt_le (sdb ((oA u 26 g33).2 6) ((oA u 26 g33).2 7) (chV (u.2 1) (u.2 2) (u.2 3) (nI a1))) nl
          refine lv_aload_n hx hb dX5_alike_83 rfl (lv_at hl 2 rfl) ?_
          refine lv_iload hx hb dX5_alike_84 (lv_at hl 1 rfl) ?_
          refine lv_iload hx hb dX5_alike_86 (lv_at hl 0 rfl) ?_
          refine cRi (w := mw G h (oA u 26 g33) lt sj) (As := [.int (chV (u.2 1) (u.2 2) (u.2 3) (nI a1)), .int (chV (u.2 1) (u.2 2) (u.2 3) (nI b1))]) (rest := [.int (nI (cnt (sdb ((oA u 26 g33).2 6) ((oA u 26 g33).2 7) (chV (u.2 1) (u.2 2) (u.2 3) (nI a1))) nl))]) ⟨hx, hb, hml, hown, hts⟩ (mt_X5_bothOf l G h (oA u 26 g33) lt sj nl (chV (u.2 1) (u.2 2) (u.2 3) (nI a1)) (chV (u.2 1) (u.2 2) (u.2 3) (nI b1)) (hnl) (by first | assumption | omega)) (cwV 2 hts gX5_alike_X5_bothOf rfl rfl rfl (by decide +kernel) ⟨Nat.le_of_ble_eq_true rfl, Nat.le_of_ble_eq_true rfl⟩) hK hN hP 0 5 rfl rfl rfl hl.1 rfl (Nat.le_of_ble_eq_true rfl) ⟨Nat.zero_le _, Nat.zero_le _⟩ dX5_alike_88 (fun r88 hw88 => ?_)
          obtain rfl := hw88
          have hc88 := cnt_le (fun i => sdb ((oA u 26 g33).2 6) ((oA u 26 g33).2 7) (chV (u.2 1) (u.2 2) (u.2 3) (nI a1)) i && sdb ((oA u 26 g33).2 6) ((oA u 26 g33).2 7) (chV (u.2 1) (u.2 2) (u.2 3) (nI b1)) i) nl
          refine lv_isub hx hb dX5_alike_91 ?_
          exact W.iret (v := (nI (cnt (sdb ((oA u 26 g33).2 6) ((oA u 26 g33).2 7) (chV (u.2 1) (u.2 2) (u.2 3) (nI a1))) nl)) - (nI (cnt (fun i => sdb ((oA u 26 g33).2 6) ((oA u 26 g33).2 7) (chV (u.2 1) (u.2 2) (u.2 3) (nI a1)) i && sdb ((oA u 26 g33).2 6) ((oA u 26 g33).2 7) (chV (u.2 1) (u.2 2) (u.2 3) (nI b1)) i) nl))) hx hb hr (fun t ht hW => ⟨⟨(nI (cnt (sdb ((oA u 26 g33).2 6) ((oA u 26 g33).2 7) (chV (u.2 1) (u.2 2) (u.2 3) (nI a1))) nl)) - (nI (cnt (fun i => sdb ((oA u 26 g33).2 6) ((oA u 26 g33).2 7) (chV (u.2 1) (u.2 2) (u.2 3) (nI a1)) i && sdb ((oA u 26 g33).2 6) ((oA u 26 g33).2 7) (chV (u.2 1) (u.2 2) (u.2 3) (nI b1)) i) nl)), (oA u 26 g33, lt, sj), rfl, ⟨⟨nv, nl, nt, nh, hI0⟩, ⟨rfl, rfl, rfl⟩, rfl, rfl⟩, show PP G (mw G h (oA u 26 g33) lt sj) t.heap by rw [ht]; exact hP⟩, hS.F ht⟩) hS.2.2 dX5_alike_92
        by_cases q39_2 : what = 2
        · skip
          subst q39_2
          refine lv_tableIn (tgt := 93) hx hb dX5_alike_39 (by decide) (by decide) rfl (by decide) ?_
          refine lv_aload_n hx hb dX5_alike_93 rfl (lv_at hl 2 rfl) ?_
          refine lv_iload hx hb dX5_alike_94 (lv_at hl 0 rfl) ?_
          refine cRi (w := mw G h (oA u 26 g33) lt sj) (As := [.int (chV (u.2 1) (u.2 2) (u.2 3) (nI b1))]) (rest := []) ⟨hx, hb, hml, hown, hts⟩ (mt_X5_manyOf l G h (oA u 26 g33) lt sj nl (chV (u.2 1) (u.2 2) (u.2 3) (nI b1)) (hnl) (by first | assumption | omega)) (cwV 1 hts gX5_alike_X5_manyOf rfl rfl rfl (by decide +kernel) ⟨Nat.le_of_ble_eq_true rfl, Nat.le_of_ble_eq_true rfl⟩) hK hN hP 0 5 rfl rfl rfl hl.1 rfl (Nat.le_of_ble_eq_true rfl) ⟨Nat.zero_le _, Nat.zero_le _⟩ dX5_alike_96 (fun r96 hw96 => ?_)
          obtain rfl := hw96
          have hc96 := cnt_le (sdb ((oA u 26 g33).2 6) ((oA u 26 g33).2 7) (chV (u.2 1) (u.2 2) (u.2 3) (nI b1))) nl
          refine lv_aload_n hx hb dX5_alike_99 rfl (lv_at hl 2 rfl) ?_
          refine lv_iload hx hb dX5_alike_100 (lv_at hl 1 rfl) ?_
          refine lv_iload hx hb dX5_alike_102 (lv_at hl 0 rfl) ?_
          refine cRi (w := mw G h (oA u 26 g33) lt sj) (As := [.int (chV (u.2 1) (u.2 2) (u.2 3) (nI a1)), .int (chV (u.2 1) (u.2 2) (u.2 3) (nI b1))]) (rest := [.int (nI (cnt (sdb ((oA u 26 g33).2 6) ((oA u 26 g33).2 7) (chV (u.2 1) (u.2 2) (u.2 3) (nI b1))) nl))]) ⟨hx, hb, hml, hown, hts⟩ (mt_X5_bothOf l G h (oA u 26 g33) lt sj nl (chV (u.2 1) (u.2 2) (u.2 3) (nI a1)) (chV (u.2 1) (u.2 2) (u.2 3) (nI b1)) (hnl) (by first | assumption | omega)) (cwV 2 hts gX5_alike_X5_bothOf rfl rfl rfl (by decide +kernel) ⟨Nat.le_of_ble_eq_true rfl, Nat.le_of_ble_eq_true rfl⟩) hK hN hP 0 5 rfl rfl rfl hl.1 rfl (Nat.le_of_ble_eq_true rfl) ⟨Nat.zero_le _, Nat.zero_le _⟩ dX5_alike_104 (fun r104 hw104 => ?_)
          obtain rfl := hw104
          have hc104 := cnt_le (fun i => sdb ((oA u 26 g33).2 6) ((oA u 26 g33).2 7) (chV (u.2 1) (u.2 2) (u.2 3) (nI a1)) i && sdb ((oA u 26 g33).2 6) ((oA u 26 g33).2 7) (chV (u.2 1) (u.2 2) (u.2 3) (nI b1)) i) nl
          refine lv_isub hx hb dX5_alike_107 ?_
          exact W.iret (v := (nI (cnt (sdb ((oA u 26 g33).2 6) ((oA u 26 g33).2 7) (chV (u.2 1) (u.2 2) (u.2 3) (nI b1))) nl)) - (nI (cnt (fun i => sdb ((oA u 26 g33).2 6) ((oA u 26 g33).2 7) (chV (u.2 1) (u.2 2) (u.2 3) (nI a1)) i && sdb ((oA u 26 g33).2 6) ((oA u 26 g33).2 7) (chV (u.2 1) (u.2 2) (u.2 3) (nI b1)) i) nl))) hx hb hr (fun t ht hW => ⟨⟨(nI (cnt (sdb ((oA u 26 g33).2 6) ((oA u 26 g33).2 7) (chV (u.2 1) (u.2 2) (u.2 3) (nI b1))) nl)) - (nI (cnt (fun i => sdb ((oA u 26 g33).2 6) ((oA u 26 g33).2 7) (chV (u.2 1) (u.2 2) (u.2 3) (nI a1)) i && sdb ((oA u 26 g33).2 6) ((oA u 26 g33).2 7) (chV (u.2 1) (u.2 2) (u.2 3) (nI b1)) i) nl)), (oA u 26 g33, lt, sj), rfl, ⟨⟨nv, nl, nt, nh, hI0⟩, ⟨rfl, rfl, rfl⟩, rfl, rfl⟩, show PP G (mw G h (oA u 26 g33) lt sj) t.heap by rw [ht]; exact hP⟩, hS.F ht⟩) hS.2.2 dX5_alike_108
        by_cases q39_3 : what = 3
        · skip
          subst q39_3
          refine lv_tableIn (tgt := 109) hx hb dX5_alike_39 (by decide) (by decide) rfl (by decide) ?_
          refine lv_aload_n hx hb dX5_alike_109 rfl (lv_at hl 2 rfl) ?_
          refine lv_iload hx hb dX5_alike_110 (lv_at hl 1 rfl) ?_
          refine lv_iload hx hb dX5_alike_112 (lv_at hl 0 rfl) ?_
          refine cRi (w := mw G h (oA u 26 g33) lt sj) (As := [.int (chV (u.2 1) (u.2 2) (u.2 3) (nI a1)), .int (chV (u.2 1) (u.2 2) (u.2 3) (nI b1))]) (rest := []) ⟨hx, hb, hml, hown, hts⟩ (mt_X5_partOf l G h (oA u 26 g33) lt sj nl (chV (u.2 1) (u.2 2) (u.2 3) (nI a1)) (chV (u.2 1) (u.2 2) (u.2 3) (nI b1)) (hnl) (by first | assumption | omega)) (cwV 2 hts gX5_alike_X5_partOf rfl rfl rfl (by decide +kernel) ⟨Nat.le_of_ble_eq_true rfl, Nat.le_of_ble_eq_true rfl⟩) hK hN hP 0 5 rfl rfl rfl hl.1 rfl (Nat.le_of_ble_eq_true rfl) ⟨Nat.zero_le _, Nat.zero_le _⟩ dX5_alike_114 (fun r114 hw114 => ?_)
          exact W.iret (v := r114) hx hb hr (fun t ht hW => ⟨⟨r114, (oA u 26 g33, lt, sj), rfl, ⟨⟨nv, nl, nt, nh, hI0⟩, ⟨rfl, rfl, rfl⟩, rfl, rfl⟩, show PP G (mw G h (oA u 26 g33) lt sj) t.heap by rw [ht]; exact hP⟩, hS.F ht⟩) hS.2.2 dX5_alike_117
        have t39_0 : ¬ what.toInt = 0 := lv_neT q39_0 rfl
        have t39_1 : ¬ what.toInt = 1 := lv_neT q39_1 rfl
        have t39_2 : ¬ what.toInt = 2 := lv_neT q39_2 rfl
        have t39_3 : ¬ what.toInt = 3 := lv_neT q39_3 rfl
        refine lv_tableOut (tgt := 118) hx hb dX5_alike_39 (by omega) (by decide) ?_
        refine lv_ldc (v := (-1000000002 : Int32)) hx hb hown (hts (.constant RX5 100 (-1000000002)) (List.mem_of_getElem? (i := 2) rfl)) dX5_alike_118 ?_
        exact W.iret (v := (-1000000002 : Int32)) hx hb hr (fun t ht hW => ⟨⟨(-1000000002 : Int32), (oA u 26 g33, lt, sj), rfl, ⟨⟨nv, nl, nt, nh, hI0⟩, ⟨rfl, rfl, rfl⟩, rfl, rfl⟩, show PP G (mw G h (oA u 26 g33) lt sj) t.heap by rw [ht]; exact hP⟩, hS.F ht⟩) hS.2.2 dX5_alike_120
      · skip
        have n18 : a1 = b1 := (nI_eq (a := a1) (b := b1) (by omega) (by omega)).mp c18
        refine lv_ldc (v := (-1000000001 : Int32)) hx hb hown (hts (.constant RX5 216 (-1000000001)) (List.mem_of_getElem? (i := 1) rfl)) dX5_alike_21 ?_
        exact W.iret (v := (-1000000001 : Int32)) hx hb hr (fun t ht hW => ⟨⟨(-1000000001 : Int32), (u, lt, sj), rfl, ⟨⟨nv, nl, nt, nh, hI0⟩, ⟨rfl, rfl, rfl⟩, rfl, rfl⟩, show PP G (mw G h u lt sj) t.heap by rw [ht]; exact hP⟩, hS.F ht⟩) hS.2.2 dX5_alike_23
    · skip
      refine lv_if_eq (tgt := 21) hx hb dX5_alike_13 (by decide) (fun _ => ?_) (fun c9 => absurd (by decide) c9)
      refine lv_ldc (v := (-1000000001 : Int32)) hx hb hown (hts (.constant RX5 216 (-1000000001)) (List.mem_of_getElem? (i := 1) rfl)) dX5_alike_21 ?_
      exact W.iret (v := (-1000000001 : Int32)) hx hb hr (fun t ht hW => ⟨⟨(-1000000001 : Int32), (u, lt, sj), rfl, ⟨⟨nv, nl, nt, nh, hI0⟩, ⟨rfl, rfl, rfl⟩, rfl, rfl⟩, show PP G (mw G h u lt sj) t.heap by rw [ht]; exact hP⟩, hS.F ht⟩) hS.2.2 dX5_alike_23
  · skip
    refine lv_if_eq (tgt := 21) hx hb dX5_alike_5 (by decide) (fun _ => ?_) (fun c9 => absurd (by decide) c9)
    refine lv_ldc (v := (-1000000001 : Int32)) hx hb hown (hts (.constant RX5 216 (-1000000001)) (List.mem_of_getElem? (i := 1) rfl)) dX5_alike_21 ?_
    exact W.iret (v := (-1000000001 : Int32)) hx hb hr (fun t ht hW => ⟨⟨(-1000000001 : Int32), (u, lt, sj), rfl, ⟨⟨nv, nl, nt, nh, hI0⟩, ⟨rfl, rfl, rfl⟩, rfl, rfl⟩, show PP G (mw G h u lt sj) t.heap by rw [ht]; exact hP⟩, hS.F ht⟩) hS.2.2 dX5_alike_23
set_option maxHeartbeats 1000000 in
set_option maxRecDepth 100000 in
theorem mt_X5_without (l : Launch) (G : gG) (h : Nat → Nat) (sz : Nat) (u : oS) (lt : Int64) (sj : Nat → Int64) (a : Int32) (b : Int32) (nv nl nt nh : Nat) (hI : MIx u nv nl nt nh) : Met l yX5_without wsX5_without ({ frames := 3, cells := 0, slots := 0, locals := 66 }) (preW G (mw G h u lt sj) sz [.ref (h 0), .int a, .int b]) (va_Qi (fun (r : Int32) (v : oS × Int64 × (Nat → Int64)) => MIk u v.1) (fun v t => PP G (mw G h v.1 v.2.1 v.2.2) t.heap) (va_A (mw G h u lt sj) sz)) 0 0 (va_A (mw G h u lt sj) sz) := by
  refine Met.ofW (cc := cX5_without) (maxL := 3) (ret := (some .int)) (by decide) rfl ?_
  intro p e s m args below meth c s₁ B hml hv
  obtain ⟨ha, hsz, hP, hK, hN, hD0⟩ := hv
  subst ha
  have hx := B.exec
  have hb := B.bytes
  have hr := B.returns
  have hts := atoms_spec (ws := wsX5_without) B.pre
  have hown : s.vm.findClass RX5 = some m.cls := findClass_of_methodNamed B.named
  have hlocks := B.notSynchronized
  subst hsz
  have hD := hD0.self (sz := s.heap.size)
  generalize hAe : va_A (mw G h u lt sj) s.heap.size = A at hD ⊢
  have hA : ∀ q : Nat, s.heap.size ≤ q → A q := fun q h => by rw [← hAe]; exact Or.inr h
  clear hAe hD0
  have hS : va_S A s.heap s.heap [] := va_S.rf
  have hl := lv_entry ([.ref (h 0), .int a, .int b]) (n := 3) (Nat.le_of_ble_eq_true rfl)
  rw [lg_entry_eq]
  generalize (lg_sl ([.ref (h 0), .int a, .int b]) ++ List.replicate (3 - (lg_sl ([.ref (h 0), .int a, .int b])).length) Slot.unset).toArray = ls at hl ⊢
  have hl : lv_has ls 3 [(0, .ref (h 0)), (1, .int a), (2, .int b)] := hl
  have hI0 := hI
  obtain ⟨hnv, hnl, hnt, hnh, hnv24, hnl120, hnt240, hnh120, hop, hopn, hparV, hsz4, himg⟩ := hI
  refine lv_aload_n hx hb dX5_without_0 rfl (lv_at hl 0 rfl) ?_
  refine lv_iload_n hx hb dX5_without_1 rfl (lv_at hl 1 rfl) ?_
  refine cRi (w := mw G h u lt sj) (As := [.int a]) (rest := []) ⟨hx, hb, hml, hown, hts⟩ (mt_X5_isVersion l G h u lt sj nv a (hnv) (by first | assumption | omega)) (cwV 1 hts gX5_without_X5_isVersion rfl rfl rfl (by decide +kernel) ⟨Nat.le_of_ble_eq_true rfl, Nat.le_of_ble_eq_true rfl⟩) hK hN hP 0 5 rfl rfl rfl hl.1 rfl (Nat.le_of_ble_eq_true rfl) ⟨Nat.zero_le _, Nat.zero_le _⟩ dX5_without_2 (fun r2 hw2 => ?_)
  rcases hw2 with ⟨rfl, a1, ha1, rfl⟩ | ⟨rfl, hna1⟩
  · skip
    refine lv_if_eq (tgt := 21) hx hb dX5_without_5 (by decide) (fun c9 => absurd c9 (by decide)) (fun _ => ?_)
    refine lv_aload_n hx hb dX5_without_8 rfl (lv_at hl 0 rfl) ?_
    refine lv_iload_n hx hb dX5_without_9 rfl (lv_at hl 2 rfl) ?_
    refine cRi (w := mw G h u lt sj) (As := [.int b]) (rest := []) ⟨hx, hb, hml, hown, hts⟩ (mt_X5_isVersion l G h u lt sj nv b (hnv) (by first | assumption | omega)) (cwV 1 hts gX5_without_X5_isVersion rfl rfl rfl (by decide +kernel) ⟨Nat.le_of_ble_eq_true rfl, Nat.le_of_ble_eq_true rfl⟩) hK hN hP 0 5 rfl rfl rfl hl.1 rfl (Nat.le_of_ble_eq_true rfl) ⟨Nat.zero_le _, Nat.zero_le _⟩ dX5_without_10 (fun r10 hw10 => ?_)
    rcases hw10 with ⟨rfl, b1, hb1, rfl⟩ | ⟨rfl, hnb1⟩
    · skip
      refine lv_if_eq (tgt := 21) hx hb dX5_without_13 (by decide) (fun c9 => absurd c9 (by decide)) (fun _ => ?_)
      refine lv_iload_n hx hb dX5_without_16 rfl (lv_at hl 2 rfl) ?_
      refine lv_iload_n hx hb dX5_without_17 rfl (lv_at hl 1 rfl) ?_
      refine lv_icmp_ne (tgt := 24) hx hb dX5_without_18 (by decide) (fun c18 => ?_) (fun c18 => ?_)
      · skip
        have n18 : ¬ (b1 = a1) := fun q9 => c18 ((nI_eq (a := b1) (b := a1) (by omega) (by omega)).mpr q9)
        refine lv_aload_n hx hb dX5_without_24 rfl (lv_at hl 0 rfl) ?_
        refine lv_aload_n hx hb dX5_without_25 rfl (lv_at hl 0 rfl) ?_
        refine lv_iload_n hx hb dX5_without_26 rfl (lv_at hl 1 rfl) ?_
        have hP := mw_self26 hP
        have hD : va_D A (mw G h (oA u 26 (u.2 26)) lt sj) := mw_self26D hD
        refine cXi (As := [.int (nI a1)]) (rest := [.ref (h 0)]) (S := oS × Int64 × (Nat → Int64)) (wa := mw G h (oA u 26 (u.2 26)) lt sj) (w1 := fun v => mw G h v.1 v.2.1 v.2.2) ⟨hx, hb, hml, hown, hts⟩ (mt_X5_changesOf l G h _ u lt sj (u.2 26) a1 (by first | assumption | omega) (hparV.le (by omega))) (cwV 1 hts gX5_without_X5_changesOf rfl rfl rfl (by decide +kernel) ⟨Nat.le_of_ble_eq_true rfl, Nat.le_of_ble_eq_true rfl⟩) hK hN hP hD hS hA (fun _ => rfl) 0 5 rfl rfl rfl hl.1 rfl (Nat.le_of_ble_eq_true rfl) ⟨Nat.zero_le _, Nat.zero_le _⟩ dX5_without_27 (fun r27 u27 H locs hw27 hP hD hS => ?_)
        obtain ⟨g27, rfl, rfl⟩ := hw27
        have hP : PP G (mw G h (oA u 26 g27) lt sj) H := hP
        have hD : va_D A (mw G h (oA u 26 g27) lt sj) := hD
        refine lv_iconst (v := (1 : Int32)) hx hb dX5_without_30 (by decide) ?_
        refine lv_iload_n hx hb dX5_without_31 rfl (lv_at hl 2 rfl) ?_
        refine lv_ishl hx hb dX5_without_32 ?_
        refine lv_iconst (v := (-1 : Int32)) hx hb dX5_without_33 (by decide) ?_
        refine lv_ixor hx hb dX5_without_34 ?_
        refine lv_iand hx hb dX5_without_35 ?_
        refine cRi (w := mw G h (oA u 26 g27) lt sj) (As := [.int ((chV (u.2 1) (u.2 2) (u.2 3) (nI a1)) &&& (((1 : Int32) <<< ((nI b1) &&& 31)) ^^^ (-1 : Int32)))]) (rest := []) ⟨hx, hb, hml, hown, hts⟩ (mt_X5_manyOf l G h (oA u 26 g27) lt sj nl ((chV (u.2 1) (u.2 2) (u.2 3) (nI a1)) &&& (((1 : Int32) <<< ((nI b1) &&& 31)) ^^^ (-1 : Int32))) (hnl) (by first | assumption | omega)) (cwV 1 hts gX5_without_X5_manyOf rfl rfl rfl (by decide +kernel) ⟨Nat.le_of_ble_eq_true rfl, Nat.le_of_ble_eq_true rfl⟩) hK hN hP 0 5 rfl rfl rfl hl.1 rfl (Nat.le_of_ble_eq_true rfl) ⟨Nat.zero_le _, Nat.zero_le _⟩ dX5_without_36 (fun r36 hw36 => ?_)
        obtain rfl := hw36
        have hc36 := cnt_le (sdb ((oA u 26 g27).2 6) ((oA u 26 g27).2 7) ((chV (u.2 1) (u.2 2) (u.2 3) (nI a1)) &&& (((1 : Int32) <<< ((nI b1) &&& 31)) ^^^ (-1 : Int32)))) nl
        exact W.iret (v := nI (cnt (sdb ((oA u 26 g27).2 6) ((oA u 26 g27).2 7) ((chV (u.2 1) (u.2 2) (u.2 3) (nI a1)) &&& (((1 : Int32) <<< ((nI b1) &&& 31)) ^^^ (-1 : Int32)))) nl)) hx hb hr (fun t ht hW => ⟨⟨nI (cnt (sdb ((oA u 26 g27).2 6) ((oA u 26 g27).2 7) ((chV (u.2 1) (u.2 2) (u.2 3) (nI a1)) &&& (((1 : Int32) <<< ((nI b1) &&& 31)) ^^^ (-1 : Int32)))) nl), (oA u 26 g27, lt, sj), rfl, ⟨⟨nv, nl, nt, nh, hI0⟩, ⟨rfl, rfl, rfl⟩, rfl, rfl⟩, show PP G (mw G h (oA u 26 g27) lt sj) t.heap by rw [ht]; exact hP⟩, hS.F ht⟩) hS.2.2 dX5_without_39
      · skip
        have n18 : b1 = a1 := (nI_eq (a := b1) (b := a1) (by omega) (by omega)).mp c18
        refine lv_ldc (v := (-1000000001 : Int32)) hx hb hown (hts (.constant RX5 216 (-1000000001)) (List.mem_of_getElem? (i := 1) rfl)) dX5_without_21 ?_
        exact W.iret (v := (-1000000001 : Int32)) hx hb hr (fun t ht hW => ⟨⟨(-1000000001 : Int32), (u, lt, sj), rfl, ⟨⟨nv, nl, nt, nh, hI0⟩, ⟨rfl, rfl, rfl⟩, rfl, rfl⟩, show PP G (mw G h u lt sj) t.heap by rw [ht]; exact hP⟩, hS.F ht⟩) hS.2.2 dX5_without_23
    · skip
      refine lv_if_eq (tgt := 21) hx hb dX5_without_13 (by decide) (fun _ => ?_) (fun c9 => absurd (by decide) c9)
      refine lv_ldc (v := (-1000000001 : Int32)) hx hb hown (hts (.constant RX5 216 (-1000000001)) (List.mem_of_getElem? (i := 1) rfl)) dX5_without_21 ?_
      exact W.iret (v := (-1000000001 : Int32)) hx hb hr (fun t ht hW => ⟨⟨(-1000000001 : Int32), (u, lt, sj), rfl, ⟨⟨nv, nl, nt, nh, hI0⟩, ⟨rfl, rfl, rfl⟩, rfl, rfl⟩, show PP G (mw G h u lt sj) t.heap by rw [ht]; exact hP⟩, hS.F ht⟩) hS.2.2 dX5_without_23
  · skip
    refine lv_if_eq (tgt := 21) hx hb dX5_without_5 (by decide) (fun _ => ?_) (fun c9 => absurd (by decide) c9)
    refine lv_ldc (v := (-1000000001 : Int32)) hx hb hown (hts (.constant RX5 216 (-1000000001)) (List.mem_of_getElem? (i := 1) rfl)) dX5_without_21 ?_
    exact W.iret (v := (-1000000001 : Int32)) hx hb hr (fun t ht hW => ⟨⟨(-1000000001 : Int32), (u, lt, sj), rfl, ⟨⟨nv, nl, nt, nh, hI0⟩, ⟨rfl, rfl, rfl⟩, rfl, rfl⟩, show PP G (mw G h u lt sj) t.heap by rw [ht]; exact hP⟩, hS.F ht⟩) hS.2.2 dX5_without_23
set_option maxHeartbeats 1000000 in
set_option maxRecDepth 100000 in
theorem mt_X5_block (l : Launch) (G : gG) (h : Nat → Nat) (u : oS) (lt : Int64) (sj : Nat → Int64) (nl : Nat) (b : Int32) (what : Int32) (hnl : u.1 4 = nI nl) (hnl120 : nl ≤ 120) : Met l yX5_block wsX5_block ({ frames := 2, cells := 0, slots := 0, locals := 43 }) (preR G (mw G h u lt sj) [.ref (h 0), .int b, .int what]) (vp_Si (fun r : Int32 => True)) 0 0 (fun _ => False) := by
  refine Met.ofW (cc := cX5_block) (maxL := 6) (ret := (some .int)) (by decide) rfl ?_
  intro p e s m args below meth c s₁ B hml hv
  obtain ⟨ha, hP, hK, hN⟩ := hv
  subst ha
  have hx := B.exec
  have hb := B.bytes
  have hr := B.returns
  have hts := atoms_spec (ws := wsX5_block) B.pre
  have hown : s.vm.findClass RX5 = some m.cls := findClass_of_methodNamed B.named
  have hlocks := B.notSynchronized
  have hiX5 : ∀ w ∈ wsX50, w ∈ wsX5_block := by decide +kernel
  have k175 := hts (.fieldLink RX5 175 "WovenHistoryModel" "lines" "I") (List.mem_of_getElem? (i := 2) rfl)
  have hl := lv_entry ([.ref (h 0), .int b, .int what]) (n := 6) (Nat.le_of_ble_eq_true rfl)
  rw [lg_entry_eq]
  generalize (lg_sl ([.ref (h 0), .int b, .int what]) ++ List.replicate (6 - (lg_sl ([.ref (h 0), .int b, .int what])).length) Slot.unset).toArray = ls at hl ⊢
  have hl : lv_has ls 6 [(0, .ref (h 0)), (1, .int b), (2, .int what)] := hl
  refine lv_iload_n hx hb dX5_block_0 rfl (lv_at hl 2 rfl) ?_
  refine lv_i2l (v := what.toInt64) hx hb dX5_block_1 rfl ?_
  refine lv_lconst (v := 0) hx hb dX5_block_2 (by decide) ?_
  refine lv_lconst (v := 1) hx hb dX5_block_3 (by decide) ?_
  refine cSi (As := [.long what.toInt64, .long 0, .long 1]) (rest := []) ⟨hx, hb, hml, hown, hts⟩ (mt_X5_in l what.toInt64 0 1) (va_cwS 3 hts gX5_block_X5_in rfl rfl rfl (by decide +kernel) ⟨Nat.le_of_ble_eq_true rfl, Nat.le_of_ble_eq_true rfl⟩) rfl hl.1 rfl (Nat.le_of_ble_eq_true rfl) ⟨Nat.zero_le _, Nat.zero_le _⟩ dX5_block_4 (fun r4 hw4 => ?_)
  rcases hw4 with ⟨rfl, ha4, hb4⟩ | ⟨rfl, hn4⟩
  · skip
    refine lv_if_ne (tgt := 13) hx hb dX5_block_7 (by decide) (fun _ => ?_) (fun c9 => absurd c9 (by decide))
    refine lv_iload_n hx hb dX5_block_13 rfl (lv_at hl 1 rfl) ?_
    refine lv_i2l (v := b.toInt64) hx hb dX5_block_14 rfl ?_
    refine lv_lconst (v := 0) hx hb dX5_block_15 (by decide) ?_
    refine lv_aload_n hx hb dX5_block_16 rfl (lv_at hl 0 rfl) ?_
    refine cRi (w := mw G h u lt sj) (As := []) (rest := [.long 0, .long b.toInt64]) ⟨hx, hb, hml, hown, hts⟩ (mt_X5_blocks l G h u lt sj nl (hnl) (by first | assumption | omega)) (cwV 0 hts gX5_block_X5_blocks rfl rfl rfl (by decide +kernel) ⟨Nat.le_of_ble_eq_true rfl, Nat.le_of_ble_eq_true rfl⟩) hK hN hP 0 5 rfl rfl rfl hl.1 rfl (Nat.le_of_ble_eq_true rfl) ⟨Nat.zero_le _, Nat.zero_le _⟩ dX5_block_17 (fun r17 hw17 => ?_)
    obtain rfl := hw17
    have hc17 := cnt_le (nbb (u.2 6) (u.2 7)) nl
    refine lv_iconst (v := nI 1) hx hb dX5_block_20 (by decide) ?_
    refine lv_isub hx hb dX5_block_21 ?_
    refine lv_i2l (v := ((nI (cnt (nbb (u.2 6) (u.2 7)) nl)) - (nI 1)).toInt64) hx hb dX5_block_22 rfl ?_
    refine cSi (As := [.long b.toInt64, .long 0, .long (((nI (cnt (nbb (u.2 6) (u.2 7)) nl)) - (nI 1)).toInt64)]) (rest := []) ⟨hx, hb, hml, hown, hts⟩ (mt_X5_in l b.toInt64 0 (((nI (cnt (nbb (u.2 6) (u.2 7)) nl)) - (nI 1)).toInt64)) (va_cwS 3 hts gX5_block_X5_in rfl rfl rfl (by decide +kernel) ⟨Nat.le_of_ble_eq_true rfl, Nat.le_of_ble_eq_true rfl⟩) rfl hl.1 rfl (Nat.le_of_ble_eq_true rfl) ⟨Nat.zero_le _, Nat.zero_le _⟩ dX5_block_23 (fun r23 hw23 => ?_)
    rcases hw23 with ⟨rfl, ha23, hb23⟩ | ⟨rfl, hn23⟩
    · skip
      obtain ⟨b1, hb1, rfl⟩ := isv_y (by omega) ha23 hb23
      refine lv_if_ne (tgt := 31) hx hb dX5_block_26 (by decide) (fun _ => ?_) (fun c9 => absurd c9 (by decide))
      refine lv_iload_n hx hb dX5_block_31 rfl (lv_at hl 1 rfl) ?_
      refine lv_istore_n (lv' := [(3, .int (nI b1)), (0, .ref (h 0)), (1, .int (nI b1)), (2, .int what)]) hx hb dX5_block_32 rfl hl (by decide) rfl (fun ls hl => ?_)
      refine lv_iconst (v := nI 0) hx hb dX5_block_33 (by decide) ?_
      refine lv_istore (lv' := [(4, .int (nI 0)), (3, .int (nI b1)), (0, .ref (h 0)), (1, .int (nI b1)), (2, .int what)]) hx hb dX5_block_34 hl (by decide) rfl (fun ls hl => ?_)
      have LP36 : ∀ (n36m : Nat), ∀ (ll : Nat) (k : Nat) (hll : ll + cnt (nbb (u.2 6) (u.2 7)) k = b1), (nl - k < n36m) → ∀ (ls : Array Slot), lv_has ls 6 [(0, .ref (h 0)), (2, .int what), (3, .int (nI ll)), (4, .int (nI k))] → W p l e (headSpec wsX5_block ({ frames := 2, cells := 0, slots := 0, locals := 43 })).room s m ([.ref (h 0), .int (nI b1), .int what] : List Value).toArray below meth c s.heap [] 0 0 (MQ below (vp_Si (fun r : Int32 => True)) ([.ref (h 0), .int (nI b1), .int what] : List Value).toArray s 0 0 (fun _ => False)) (F0 m 36 ls []) := by
        intro n36m
        induction n36m with
        | zero => intro ll k hll hmu ls hl; exact absurd hmu (Nat.not_lt_zero _)
        | succ n36m ih36 =>
          intro ll k hll hmu ls hl
          refine lv_aload_n hx hb dX5_block_36 rfl (lv_at hl 0 rfl) ?_
          have hk36 : k < nl := cnt_lt (p := nbb (u.2 6) (u.2 7)) (by omega)
          refine lv_iload hx hb dX5_block_37 (lv_at hl 3 rfl) ?_
          refine cRi (w := mw G h u lt sj) (As := [.int (nI k)]) (rest := []) ⟨hx, hb, hml, hown, hts⟩ (mt_X5_isNewBlock l G h u lt sj k (by first | assumption | omega)) (cwV 1 hts gX5_block_X5_isNewBlock rfl rfl rfl (by decide +kernel) ⟨Nat.le_of_ble_eq_true rfl, Nat.le_of_ble_eq_true rfl⟩) hK hN hP 0 5 rfl rfl rfl hl.1 rfl (Nat.le_of_ble_eq_true rfl) ⟨Nat.zero_le _, Nat.zero_le _⟩ dX5_block_39 (fun r39 hw39 => ?_)
          rcases hw39 with ⟨rfl, hy39⟩ | ⟨rfl, hn39⟩
          · skip
            refine lv_if_eq (tgt := 49) hx hb dX5_block_42 (by decide) (fun c9 => absurd c9 (by decide)) (fun _ => ?_)
            refine lv_iload_n hx hb dX5_block_45 rfl (lv_at hl 2 rfl) ?_
            refine lv_if_le (tgt := 72) hx hb dX5_block_46 (by decide) (fun c46 => ?_) (fun c46 => ?_)
            · skip
              have n46 : ll ≤ 0 := (nI_leI (a := ll) (b := 0) (by omega) (by omega)).mp c46
              refine lv_iconst (v := nI 1) hx hb dX5_block_72 (by decide) ?_
              refine lv_istore (lv' := [(5, .int (nI 1)), (0, .ref (h 0)), (2, .int what), (3, .int (nI ll)), (4, .int (nI k))]) hx hb dX5_block_73 hl (by decide) rfl (fun ls hl => ?_)
              have LP75 : ∀ (n75m : Nat), ∀ (mm : Nat) (hm : mm ≤ nl + 1), (nl + 1 - mm < n75m) → ∀ (ls : Array Slot), lv_has ls 6 [(0, .ref (h 0)), (2, .int what), (4, .int (nI k)), (5, .int (nI mm))] → W p l e (headSpec wsX5_block ({ frames := 2, cells := 0, slots := 0, locals := 43 })).room s m ([.ref (h 0), .int (nI b1), .int what] : List Value).toArray below meth c s.heap [] 0 0 (MQ below (vp_Si (fun r : Int32 => True)) ([.ref (h 0), .int (nI b1), .int what] : List Value).toArray s 0 0 (fun _ => False)) (F0 m 75 ls []) := by
                intro n75m
                induction n75m with
                | zero => intro mm hm hmu ls hl; exact absurd hmu (Nat.not_lt_zero _)
                | succ n75m ih75 =>
                  intro mm hm hmu ls hl
                  refine lv_iload hx hb dX5_block_75 (lv_at hl 2 rfl) ?_
                  refine lv_iload hx hb dX5_block_77 (lv_at hl 3 rfl) ?_
                  refine lv_iadd hx hb dX5_block_79 ?_
                  refine topE (y := nI (k + mm)) (nI_add k mm) ?_
                  refine lv_aload_n hx hb dX5_block_80 rfl (lv_at hl 0 rfl) ?_
                  refine va_get (D := gD G) (ci := 5) (v := .int (u.1 4)) (C := RX5) (T := TX5) (N := 38) hx hb hts hiX5 hown hK hP 0 rfl rfl 4 (by decide) k175 (fun _ h9 => h9) rfl dX5_block_81 ?_
                  refine topE hnl ?_
                  refine lv_icmp_ge (tgt := 105) hx hb dX5_block_84 (by decide) (fun c84 => ?_) (fun c84 => ?_)
                  · skip
                    have n84 : nl ≤ (k + mm) := (nI_leI (a := nl) (b := k + mm) (by omega) (by omega)).mp c84
                    refine lv_iload_n hx hb dX5_block_105 rfl (lv_at hl 1 rfl) ?_
                    refine lv_if_ne (tgt := 114) hx hb dX5_block_106 (by decide) (fun c106 => ?_) (fun c106 => ?_)
                    · skip
                      refine lv_iload hx hb dX5_block_114 (lv_at hl 3 rfl) ?_
                      exact W.iret (v := nI mm) hx hb hr (fun t ht hW => ⟨nI mm, rfl, by first | rfl | trivial | omega | assumption, ht⟩) (fun _ h9 => by cases h9) dX5_block_116
                    · skip
                      refine lv_iload hx hb dX5_block_109 (lv_at hl 2 rfl) ?_
                      refine lv_goto (tgt := 116) hx hb dX5_block_111 (by decide) ?_
                      exact W.iret (v := nI k) hx hb hr (fun t ht hW => ⟨nI k, rfl, by first | rfl | trivial | omega | assumption, ht⟩) (fun _ h9 => by cases h9) dX5_block_116
                  · skip
                    have n84 : ¬ (nl ≤ (k + mm)) := fun q9 => c84 ((nI_leI (a := nl) (b := k + mm) (by omega) (by omega)).mpr q9)
                    refine lv_aload_n hx hb dX5_block_87 rfl (lv_at hl 0 rfl) ?_
                    refine lv_iload hx hb dX5_block_88 (lv_at hl 2 rfl) ?_
                    refine lv_iload hx hb dX5_block_90 (lv_at hl 3 rfl) ?_
                    refine lv_iadd hx hb dX5_block_92 ?_
                    refine topE (y := nI (k + mm)) (nI_add k mm) ?_
                    refine cRi (w := mw G h u lt sj) (As := [.int (nI (k + mm))]) (rest := []) ⟨hx, hb, hml, hown, hts⟩ (mt_X5_isNewBlock l G h u lt sj (k + mm) (by first | assumption | omega)) (cwV 1 hts gX5_block_X5_isNewBlock rfl rfl rfl (by decide +kernel) ⟨Nat.le_of_ble_eq_true rfl, Nat.le_of_ble_eq_true rfl⟩) hK hN hP 0 5 rfl rfl rfl hl.1 rfl (Nat.le_of_ble_eq_true rfl) ⟨Nat.zero_le _, Nat.zero_le _⟩ dX5_block_93 (fun r93 hw93 => ?_)
                    rcases hw93 with ⟨rfl, hy93⟩ | ⟨rfl, hn93⟩
                    · skip
                      refine lv_if_ne (tgt := 105) hx hb dX5_block_96 (by decide) (fun _ => ?_) (fun c9 => absurd c9 (by decide))
                      refine lv_iload_n hx hb dX5_block_105 rfl (lv_at hl 1 rfl) ?_
                      refine lv_if_ne (tgt := 114) hx hb dX5_block_106 (by decide) (fun c106 => ?_) (fun c106 => ?_)
                      · skip
                        refine lv_iload hx hb dX5_block_114 (lv_at hl 3 rfl) ?_
                        exact W.iret (v := nI mm) hx hb hr (fun t ht hW => ⟨nI mm, rfl, by first | rfl | trivial | omega | assumption, ht⟩) (fun _ h9 => by cases h9) dX5_block_116
                      · skip
                        refine lv_iload hx hb dX5_block_109 (lv_at hl 2 rfl) ?_
                        refine lv_goto (tgt := 116) hx hb dX5_block_111 (by decide) ?_
                        exact W.iret (v := nI k) hx hb hr (fun t ht hW => ⟨nI k, rfl, by first | rfl | trivial | omega | assumption, ht⟩) (fun _ h9 => by cases h9) dX5_block_116
                    · skip
                      refine lv_if_ne (tgt := 105) hx hb dX5_block_96 (by decide) (fun c9 => absurd (by decide) c9) (fun _ => ?_)
                      refine lv_iinc (v := nI (mm + 1)) (lv' := [(5, .int (nI (mm + 1))), (0, .ref (h 0)), (2, .int what), (4, .int (nI k))]) hx hb dX5_block_99 hl (k := 3) rfl (nI_1 mm) (by decide) rfl (fun ls hl => ?_)
                      refine lv_goto (tgt := 75) hx hb dX5_block_102 (by decide) ?_
                      exact ih75 (mm + 1) (by first | assumption | omega) (by omega) ls (lv_sub hl [1, 2, 3, 0] rfl)
              exact LP75 (nl + 1 - 1 + 1) 1 (by first | assumption | omega) (Nat.lt_succ_self _) ls (lv_sub hl [1, 2, 4, 0] rfl)
            · skip
              have n46 : ¬ (ll ≤ 0) := fun q9 => c46 ((nI_leI (a := ll) (b := 0) (by omega) (by omega)).mpr q9)
              refine lv_iload_n hx hb dX5_block_49 rfl (lv_at hl 2 rfl) ?_
              refine lv_aload_n hx hb dX5_block_50 rfl (lv_at hl 0 rfl) ?_
              refine lv_iload hx hb dX5_block_51 (lv_at hl 3 rfl) ?_
              refine cRi (w := mw G h u lt sj) (As := [.int (nI k)]) (rest := [.int (nI ll)]) ⟨hx, hb, hml, hown, hts⟩ (mt_X5_isNewBlock l G h u lt sj k (by first | assumption | omega)) (cwV 1 hts gX5_block_X5_isNewBlock rfl rfl rfl (by decide +kernel) ⟨Nat.le_of_ble_eq_true rfl, Nat.le_of_ble_eq_true rfl⟩) hK hN hP 0 5 rfl rfl rfl hl.1 rfl (Nat.le_of_ble_eq_true rfl) ⟨Nat.zero_le _, Nat.zero_le _⟩ dX5_block_53 (fun r53 hw53 => ?_)
              rcases hw53 with ⟨rfl, hy53⟩ | ⟨rfl, hn53⟩
              · skip
                refine lv_if_eq (tgt := 63) hx hb dX5_block_56 (by decide) (fun c9 => absurd c9 (by decide)) (fun _ => ?_)
                refine lv_iconst (v := nI 1) hx hb dX5_block_59 (by decide) ?_
                refine lv_goto (tgt := 64) hx hb dX5_block_60 (by decide) ?_
                refine lv_isub hx hb dX5_block_64 ?_
                refine topE (y := nI (ll - 1)) (pk_sub (by first | omega | (exfalso; simp_all))) ?_
                refine lv_istore_n (lv' := [(3, .int (nI (ll - 1))), (0, .ref (h 0)), (2, .int what), (4, .int (nI k))]) hx hb dX5_block_65 rfl hl (by decide) rfl (fun ls hl => ?_)
                refine lv_iinc (v := nI (k + 1)) (lv' := [(4, .int (nI (k + 1))), (3, .int (nI (ll - 1))), (0, .ref (h 0)), (2, .int what)]) hx hb dX5_block_66 hl (k := 3) rfl (nI_1 k) (by decide) rfl (fun ls hl => ?_)
                refine lv_goto (tgt := 36) hx hb dX5_block_69 (by decide) ?_
                exact ih36 (ll - 1) (k + 1) (by first | (rw [cnt_t (by assumption)]; omega) | (rw [cnt_f (by assumption)]; omega) | (exfalso; simp_all)) (by omega) ls (lv_sub hl [2, 3, 1, 0] rfl)
              · skip
                refine lv_if_eq (tgt := 63) hx hb dX5_block_56 (by decide) (fun _ => ?_) (fun c9 => absurd (by decide) c9)
                refine lv_iconst (v := nI 0) hx hb dX5_block_63 (by decide) ?_
                refine lv_isub hx hb dX5_block_64 ?_
                refine topE (y := nI (ll - 0)) (pk_sub (by first | omega | (exfalso; simp_all))) ?_
                refine lv_istore_n (lv' := [(3, .int (nI (ll - 0))), (0, .ref (h 0)), (2, .int what), (4, .int (nI k))]) hx hb dX5_block_65 rfl hl (by decide) rfl (fun ls hl => ?_)
                refine lv_iinc (v := nI (k + 1)) (lv' := [(4, .int (nI (k + 1))), (3, .int (nI (ll - 0))), (0, .ref (h 0)), (2, .int what)]) hx hb dX5_block_66 hl (k := 3) rfl (nI_1 k) (by decide) rfl (fun ls hl => ?_)
                refine lv_goto (tgt := 36) hx hb dX5_block_69 (by decide) ?_
                exact ih36 (ll - 0) (k + 1) (by first | (rw [cnt_t (by assumption)]; omega) | (rw [cnt_f (by assumption)]; omega) | (exfalso; simp_all)) (by omega) ls (lv_sub hl [2, 3, 1, 0] rfl)
          · skip
            refine lv_if_eq (tgt := 49) hx hb dX5_block_42 (by decide) (fun _ => ?_) (fun c9 => absurd (by decide) c9)
            refine lv_iload_n hx hb dX5_block_49 rfl (lv_at hl 2 rfl) ?_
            refine lv_aload_n hx hb dX5_block_50 rfl (lv_at hl 0 rfl) ?_
            refine lv_iload hx hb dX5_block_51 (lv_at hl 3 rfl) ?_
            refine cRi (w := mw G h u lt sj) (As := [.int (nI k)]) (rest := [.int (nI ll)]) ⟨hx, hb, hml, hown, hts⟩ (mt_X5_isNewBlock l G h u lt sj k (by first | assumption | omega)) (cwV 1 hts gX5_block_X5_isNewBlock rfl rfl rfl (by decide +kernel) ⟨Nat.le_of_ble_eq_true rfl, Nat.le_of_ble_eq_true rfl⟩) hK hN hP 0 5 rfl rfl rfl hl.1 rfl (Nat.le_of_ble_eq_true rfl) ⟨Nat.zero_le _, Nat.zero_le _⟩ dX5_block_53 (fun r53 hw53 => ?_)
            rcases hw53 with ⟨rfl, hy53⟩ | ⟨rfl, hn53⟩
            · skip
              refine lv_if_eq (tgt := 63) hx hb dX5_block_56 (by decide) (fun c9 => absurd c9 (by decide)) (fun _ => ?_)
              refine lv_iconst (v := nI 1) hx hb dX5_block_59 (by decide) ?_
              refine lv_goto (tgt := 64) hx hb dX5_block_60 (by decide) ?_
              refine lv_isub hx hb dX5_block_64 ?_
              refine topE (y := nI (ll - 1)) (pk_sub (by first | omega | (exfalso; simp_all))) ?_
              refine lv_istore_n (lv' := [(3, .int (nI (ll - 1))), (0, .ref (h 0)), (2, .int what), (4, .int (nI k))]) hx hb dX5_block_65 rfl hl (by decide) rfl (fun ls hl => ?_)
              refine lv_iinc (v := nI (k + 1)) (lv' := [(4, .int (nI (k + 1))), (3, .int (nI (ll - 1))), (0, .ref (h 0)), (2, .int what)]) hx hb dX5_block_66 hl (k := 3) rfl (nI_1 k) (by decide) rfl (fun ls hl => ?_)
              refine lv_goto (tgt := 36) hx hb dX5_block_69 (by decide) ?_
              exact ih36 (ll - 1) (k + 1) (by first | (rw [cnt_t (by assumption)]; omega) | (rw [cnt_f (by assumption)]; omega) | (exfalso; simp_all)) (by omega) ls (lv_sub hl [2, 3, 1, 0] rfl)
            · skip
              refine lv_if_eq (tgt := 63) hx hb dX5_block_56 (by decide) (fun _ => ?_) (fun c9 => absurd (by decide) c9)
              refine lv_iconst (v := nI 0) hx hb dX5_block_63 (by decide) ?_
              refine lv_isub hx hb dX5_block_64 ?_
              refine topE (y := nI (ll - 0)) (pk_sub (by first | omega | (exfalso; simp_all))) ?_
              refine lv_istore_n (lv' := [(3, .int (nI (ll - 0))), (0, .ref (h 0)), (2, .int what), (4, .int (nI k))]) hx hb dX5_block_65 rfl hl (by decide) rfl (fun ls hl => ?_)
              refine lv_iinc (v := nI (k + 1)) (lv' := [(4, .int (nI (k + 1))), (3, .int (nI (ll - 0))), (0, .ref (h 0)), (2, .int what)]) hx hb dX5_block_66 hl (k := 3) rfl (nI_1 k) (by decide) rfl (fun ls hl => ?_)
              refine lv_goto (tgt := 36) hx hb dX5_block_69 (by decide) ?_
              exact ih36 (ll - 0) (k + 1) (by first | (rw [cnt_t (by assumption)]; omega) | (rw [cnt_f (by assumption)]; omega) | (exfalso; simp_all)) (by omega) ls (lv_sub hl [2, 3, 1, 0] rfl)
      exact LP36 (nl - 0 + 1) b1 0 (rfl) (Nat.lt_succ_self _) ls (lv_sub hl [2, 4, 1, 0] rfl)
    · skip
      refine lv_if_ne (tgt := 31) hx hb dX5_block_26 (by decide) (fun c9 => absurd (by decide) c9) (fun _ => ?_)
      refine lv_iconst (v := (-1 : Int32)) hx hb dX5_block_29 (by decide) ?_
      exact W.iret (v := (-1 : Int32)) hx hb hr (fun t ht hW => ⟨(-1 : Int32), rfl, by first | rfl | trivial | omega | assumption, ht⟩) (fun _ h9 => by cases h9) dX5_block_30
  · skip
    refine lv_if_ne (tgt := 13) hx hb dX5_block_7 (by decide) (fun c9 => absurd (by decide) c9) (fun _ => ?_)
    refine lv_ldc (v := (-1000000002 : Int32)) hx hb hown (hts (.constant RX5 100 (-1000000002)) (List.mem_of_getElem? (i := 1) rfl)) dX5_block_10 ?_
    exact W.iret (v := (-1000000002 : Int32)) hx hb hr (fun t ht hW => ⟨(-1000000002 : Int32), rfl, by first | rfl | trivial | omega | assumption, ht⟩) (fun _ h9 => by cases h9) dX5_block_12
set_option maxHeartbeats 1000000 in
set_option maxRecDepth 100000 in
theorem mt_X5_sheet (l : Launch) (G : gG) (h : Nat → Nat) (sz : Nat) (u : oS) (lt : Int64) (sj : Nat → Int64) (s1 : Int32) (n1 : Int32) (nv nl nt nh : Nat) (hI : MIx u nv nl nt nh) : Met l yX5_sheet wsX5_sheet ({ frames := 2, cells := 0, slots := 0, locals := 45 }) (preW G (mw G h u lt sj) sz [.ref (h 0), .int s1, .int n1]) (va_Qi (fun (r : Int32) (v : oS × Int64 × (Nat → Int64)) => MIp v.1 ∧ v.1.1 10 = u.1 10 ∧ v.1.2 9 = u.2 9 ∧ v.1.1 11 = u.1 11 ∧ ((r = -1000000001 ∧ kpt u v.1 ∧ ∀ j, j < 4 → s1 ≠ nI j) ∨ (r = -1000000002 ∧ kpt u v.1 ∧ (∃ j, j < 4 ∧ s1 = nI j) ∧ ∀ j, j ≤ 40 → n1 ≠ nI j) ∨ (∃ j q, j < 4 ∧ s1 = nI j ∧ q ≤ 40 ∧ n1 = nI q ∧ r = nI q ∧ v.1.2 32 = upd (u.2 32) j (nI 1) ∧ v.1.2 33 = upd (u.2 33) j (nI q)))) (fun v t => PP G (mw G h v.1 v.2.1 v.2.2) t.heap) (va_A (mw G h u lt sj) sz)) 0 0 (va_A (mw G h u lt sj) sz) := by
  refine Met.ofW (cc := cX5_sheet) (maxL := 4) (ret := (some .int)) (by decide) rfl ?_
  intro p e s m args below meth c s₁ B hml hv
  obtain ⟨ha, hsz, hP, hK, hN, hD0⟩ := hv
  subst ha
  have hx := B.exec
  have hb := B.bytes
  have hr := B.returns
  have hts := atoms_spec (ws := wsX5_sheet) B.pre
  have hown : s.vm.findClass RX5 = some m.cls := findClass_of_methodNamed B.named
  have hlocks := B.notSynchronized
  subst hsz
  have hD := hD0.self (sz := s.heap.size)
  generalize hAe : va_A (mw G h u lt sj) s.heap.size = A at hD ⊢
  have hA : ∀ q : Nat, s.heap.size ≤ q → A q := fun q h => by rw [← hAe]; exact Or.inr h
  clear hAe hD0
  have hS : va_S A s.heap s.heap [] := va_S.rf
  have hiX5 : ∀ w ∈ wsX50, w ∈ wsX5_sheet := by decide +kernel
  have k72 := hts (.fieldLink RX5 72 "WovenHistoryModel" "isThere" "[Z") (List.mem_of_getElem? (i := 4) rfl)
  have k75 := hts (.fieldLink RX5 75 "WovenHistoryModel" "sizes" "[I") (List.mem_of_getElem? (i := 5) rfl)
  have k78 := hts (.fieldLink RX5 78 "WovenHistoryModel" "sheets" "[J") (List.mem_of_getElem? (i := 6) rfl)
  have hl := lv_entry ([.ref (h 0), .int s1, .int n1]) (n := 4) (Nat.le_of_ble_eq_true rfl)
  rw [lg_entry_eq]
  generalize (lg_sl ([.ref (h 0), .int s1, .int n1]) ++ List.replicate (4 - (lg_sl ([.ref (h 0), .int s1, .int n1])).length) Slot.unset).toArray = ls at hl ⊢
  have hl : lv_has ls 4 [(0, .ref (h 0)), (1, .int s1), (2, .int n1)] := hl
  have hI0 := hI
  obtain ⟨hnv, hnl, hnt, hnh, hnv24, hnl120, hnt240, hnh120, hop, hopn, hparV, hsz4, himg⟩ := hI
  refine lv_iload_n hx hb dX5_sheet_0 rfl (lv_at hl 1 rfl) ?_
  refine cSi (As := [.int s1]) (rest := []) ⟨hx, hb, hml, hown, hts⟩ (mt_X5_isSheet l s1) (va_cwS 1 hts gX5_sheet_X5_isSheet rfl rfl rfl (by decide +kernel) ⟨Nat.le_of_ble_eq_true rfl, Nat.le_of_ble_eq_true rfl⟩) rfl hl.1 rfl (Nat.le_of_ble_eq_true rfl) ⟨Nat.zero_le _, Nat.zero_le _⟩ dX5_sheet_1 (fun r1 hw1 => ?_)
  rcases hw1 with ⟨rfl, j1, hj1, rfl⟩ | ⟨rfl, hn1⟩
  · skip
    refine lv_if_ne (tgt := 10) hx hb dX5_sheet_4 (by decide) (fun _ => ?_) (fun c9 => absurd c9 (by decide))
    refine lv_iload_n hx hb dX5_sheet_10 rfl (lv_at hl 2 rfl) ?_
    refine lv_i2l (v := n1.toInt64) hx hb dX5_sheet_11 rfl ?_
    refine lv_lconst (v := 0) hx hb dX5_sheet_12 (by decide) ?_
    refine lv_ldc2 (v := 40) hx hb hown (hts (.constantLong RX5 281 (40)) (List.mem_of_getElem? (i := 2) rfl)) dX5_sheet_13 ?_
    refine cSi (As := [.long n1.toInt64, .long 0, .long 40]) (rest := []) ⟨hx, hb, hml, hown, hts⟩ (mt_X5_in l n1.toInt64 0 40) (va_cwS 3 hts gX5_sheet_X5_in rfl rfl rfl (by decide +kernel) ⟨Nat.le_of_ble_eq_true rfl, Nat.le_of_ble_eq_true rfl⟩) rfl hl.1 rfl (Nat.le_of_ble_eq_true rfl) ⟨Nat.zero_le _, Nat.zero_le _⟩ dX5_sheet_16 (fun r16 hw16 => ?_)
    rcases hw16 with ⟨rfl, ha16, hb16⟩ | ⟨rfl, hn16⟩
    · skip
      obtain ⟨n2, hn2a, hn2, rfl⟩ := rng_y (a := 0) (b := 40) (by decide) (by decide) (by omega) ha16 hb16
      refine lv_if_ne (tgt := 25) hx hb dX5_sheet_19 (by decide) (fun _ => ?_) (fun c9 => absurd c9 (by decide))
      refine lv_aload_n hx hb dX5_sheet_25 rfl (lv_at hl 0 rfl) ?_
      refine va_get (D := gD G) (ci := 5) (v := .ref (h 32)) (C := RX5) (T := TX5) (N := 38) hx hb hts hiX5 hown hK hP 0 rfl rfl 32 (by decide) k72 (fun _ h9 => h9) rfl dX5_sheet_26 ?_
      refine lv_iload_n hx hb dX5_sheet_29 rfl (lv_at hl 1 rfl) ?_
      refine lv_iconst (v := nI 1) hx hb dX5_sheet_30 (by decide) ?_
      refine zastN (f := u.2 32) (n := 4) (k := j1) hx hb hK hP hD hS 20 rfl rfl (by omega) (Or.inr rfl) dX5_sheet_31 (fun H locs hP hD hS => ?_)
      have hP : PP G (mw G h (oA u 32 (upd (u.2 32) j1 (nI 1))) lt sj) H := hP
      have hD : va_D A (mw G h (oA u 32 (upd (u.2 32) j1 (nI 1))) lt sj) := hD
      refine lv_aload_n hx hb dX5_sheet_32 rfl (lv_at hl 0 rfl) ?_
      refine va_get (D := gD G) (ci := 5) (v := .ref (h 33)) (C := RX5) (T := TX5) (N := 38) hx hb hts hiX5 hown hK hP 0 rfl rfl 33 (by decide) k75 (fun _ h9 => h9) rfl dX5_sheet_33 ?_
      refine lv_iload_n hx hb dX5_sheet_36 rfl (lv_at hl 1 rfl) ?_
      refine lv_iload_n hx hb dX5_sheet_37 rfl (lv_at hl 2 rfl) ?_
      refine iastN (f := (oA u 32 (upd (u.2 32) j1 (nI 1))).2 33) (n := 4) (k := j1) hx hb hK hP hD hS 21 rfl rfl (by omega) dX5_sheet_38 (fun H locs hP hD hS => ?_)
      have hP : PP G (mw G h (oA (oA u 32 (upd (u.2 32) j1 (nI 1))) 33 (upd ((oA u 32 (upd (u.2 32) j1 (nI 1))).2 33) j1 (nI n2))) lt sj) H := hP
      have hD : va_D A (mw G h (oA (oA u 32 (upd (u.2 32) j1 (nI 1))) 33 (upd ((oA u 32 (upd (u.2 32) j1 (nI 1))).2 33) j1 (nI n2))) lt sj) := hD
      refine lv_iconst (v := nI 0) hx hb dX5_sheet_39 (by decide) ?_
      refine lv_istore_n (lv' := [(3, .int (nI 0)), (0, .ref (h 0)), (1, .int (nI j1)), (2, .int (nI n2))]) hx hb dX5_sheet_40 rfl hl (by decide) rfl (fun ls hl => ?_)
      have LP41 : ∀ (n41m : Nat), ∀ (k : Nat) (ss : Nat → Int64) (hk : k ≤ n2), (n2 - k < n41m) → ∀ (H : Heap) (locs : List Loc) (ls : Array Slot), PP G (mw G h (oA (oA u 32 (upd (u.2 32) j1 (nI 1))) 33 (upd ((oA u 32 (upd (u.2 32) j1 (nI 1))).2 33) j1 (nI n2))) lt ss) H → va_D A (mw G h (oA (oA u 32 (upd (u.2 32) j1 (nI 1))) 33 (upd ((oA u 32 (upd (u.2 32) j1 (nI 1))).2 33) j1 (nI n2))) lt ss) → va_S A s.heap H locs → lv_has ls 4 [(0, .ref (h 0)), (1, .int (nI j1)), (2, .int (nI n2)), (3, .int (nI k))] → W p l e (headSpec wsX5_sheet ({ frames := 2, cells := 0, slots := 0, locals := 45 })).room s m ([.ref (h 0), .int (nI j1), .int (nI n2)] : List Value).toArray below meth c H locs 0 0 (MQ below (va_Qi (fun (r : Int32) (v : oS × Int64 × (Nat → Int64)) => MIp v.1 ∧ v.1.1 10 = u.1 10 ∧ v.1.2 9 = u.2 9 ∧ v.1.1 11 = u.1 11 ∧ ((r = -1000000001 ∧ kpt u v.1 ∧ ∀ j, j < 4 → (nI j1) ≠ nI j) ∨ (r = -1000000002 ∧ kpt u v.1 ∧ (∃ j, j < 4 ∧ (nI j1) = nI j) ∧ ∀ j, j ≤ 40 → (nI n2) ≠ nI j) ∨ (∃ j q, j < 4 ∧ (nI j1) = nI j ∧ q ≤ 40 ∧ (nI n2) = nI q ∧ r = nI q ∧ v.1.2 32 = upd (u.2 32) j (nI 1) ∧ v.1.2 33 = upd (u.2 33) j (nI q)))) (fun v t => PP G (mw G h v.1 v.2.1 v.2.2) t.heap) A) ([.ref (h 0), .int (nI j1), .int (nI n2)] : List Value).toArray s 0 0 A) (F0 m 41 ls []) := by
        intro n41m
        induction n41m with
        | zero => intro k ss hk hmu H locs ls hP hD hS hl; exact absurd hmu (Nat.not_lt_zero _)
        | succ n41m ih41 =>
          intro k ss hk hmu H locs ls hP hD hS hl
          refine lv_iload_n hx hb dX5_sheet_41 rfl (lv_at hl 3 rfl) ?_
          refine lv_iload_n hx hb dX5_sheet_42 rfl (lv_at hl 2 rfl) ?_
          refine lv_icmp_ge (tgt := 64) hx hb dX5_sheet_43 (by decide) (fun c43 => ?_) (fun c43 => ?_)
          · skip
            have n43 : n2 ≤ k := (nI_leI (a := n2) (b := k) (by omega) (by omega)).mp c43
            refine lv_iload_n hx hb dX5_sheet_64 rfl (lv_at hl 2 rfl) ?_
            exact W.iret (v := nI n2) hx hb hr (fun t ht hW => ⟨⟨nI n2, (oA (oA u 32 (upd (u.2 32) j1 (nI 1))) 33 (upd ((oA u 32 (upd (u.2 32) j1 (nI 1))).2 33) j1 (nI n2)), lt, ss), rfl, ⟨⟨nv, nl, nt, nh, hnv, hnl, hnt, hnh, hnv24, hnl120, hnt240, hnh120, hop, hopn, hparV, sz4_upd hsz4 hn2, himg⟩, rfl, rfl, rfl, Or.inr (Or.inr ⟨j1, n2, hj1, rfl, hn2, rfl, rfl, rfl, rfl⟩)⟩, show PP G (mw G h (oA (oA u 32 (upd (u.2 32) j1 (nI 1))) 33 (upd ((oA u 32 (upd (u.2 32) j1 (nI 1))).2 33) j1 (nI n2))) lt ss) t.heap by rw [ht]; exact hP⟩, hS.F ht⟩) hS.2.2 dX5_sheet_65
          · skip
            have n43 : ¬ (n2 ≤ k) := fun q9 => c43 ((nI_leI (a := n2) (b := k) (by omega) (by omega)).mpr q9)
            refine lv_aload_n hx hb dX5_sheet_46 rfl (lv_at hl 0 rfl) ?_
            refine va_get (D := gD G) (ci := 5) (v := .ref (h 34)) (C := RX5) (T := TX5) (N := 38) hx hb hts hiX5 hown hK hP 0 rfl rfl 34 (by decide) k78 (fun _ h9 => h9) rfl dX5_sheet_47 ?_
            refine lv_bipush (v := nI 40) hx hb dX5_sheet_50 (by decide) ?_
            refine lv_iload_n hx hb dX5_sheet_52 rfl (lv_at hl 1 rfl) ?_
            refine lv_imul hx hb dX5_sheet_53 ?_
            refine topE (y := nI (40 * j1)) (pk_mul 40 j1) ?_
            refine lv_iload_n hx hb dX5_sheet_54 rfl (lv_at hl 3 rfl) ?_
            refine lv_iadd hx hb dX5_sheet_55 ?_
            refine topE (y := nI ((40 * j1) + k)) (nI_add (40 * j1) k) ?_
            refine lv_lconst (v := 0) hx hb dX5_sheet_56 (by decide) ?_
            refine lastN (f := ss) (n := 160) (k := (40 * j1) + k) hx hb hK hP hD hS 22 rfl rfl (by omega) dX5_sheet_57 (fun H locs hP hD hS => ?_)
            have hP : PP G (mw G h (oA (oA u 32 (upd (u.2 32) j1 (nI 1))) 33 (upd ((oA u 32 (upd (u.2 32) j1 (nI 1))).2 33) j1 (nI n2))) lt (vp_updL ss ((40 * j1) + k) 0)) H := hP
            have hD : va_D A (mw G h (oA (oA u 32 (upd (u.2 32) j1 (nI 1))) 33 (upd ((oA u 32 (upd (u.2 32) j1 (nI 1))).2 33) j1 (nI n2))) lt (vp_updL ss ((40 * j1) + k) 0)) := hD
            refine lv_iinc (v := nI (k + 1)) (lv' := [(3, .int (nI (k + 1))), (0, .ref (h 0)), (1, .int (nI j1)), (2, .int (nI n2))]) hx hb dX5_sheet_58 hl (k := 3) rfl (nI_1 k) (by decide) rfl (fun ls hl => ?_)
            refine lv_goto (tgt := 41) hx hb dX5_sheet_61 (by decide) ?_
            exact ih41 (k + 1) (vp_updL ss ((40 * j1) + k) 0) (by first | assumption | omega) (by omega) _ _ ls hP hD hS (lv_sub hl [1, 2, 3, 0] rfl)
      exact LP41 (n2 - 0 + 1) 0 sj (by first | assumption | omega) (Nat.lt_succ_self _) _ _ ls hP hD hS (lv_sub hl [1, 2, 3, 0] rfl)
    · skip
      refine lv_if_ne (tgt := 25) hx hb dX5_sheet_19 (by decide) (fun c9 => absurd (by decide) c9) (fun _ => ?_)
      refine lv_ldc (v := (-1000000002 : Int32)) hx hb hown (hts (.constant RX5 100 (-1000000002)) (List.mem_of_getElem? (i := 3) rfl)) dX5_sheet_22 ?_
      exact W.iret (v := (-1000000002 : Int32)) hx hb hr (fun t ht hW => ⟨⟨(-1000000002 : Int32), (u, lt, sj), rfl, ⟨⟨nv, nl, nt, nh, hI0⟩, rfl, rfl, rfl, Or.inr (Or.inl ⟨rfl, ⟨rfl, rfl, rfl⟩, ⟨j1, hj1, rfl⟩, rng_n (by decide) hn16⟩)⟩, show PP G (mw G h u lt sj) t.heap by rw [ht]; exact hP⟩, hS.F ht⟩) hS.2.2 dX5_sheet_24
  · skip
    refine lv_if_ne (tgt := 10) hx hb dX5_sheet_4 (by decide) (fun c9 => absurd (by decide) c9) (fun _ => ?_)
    refine lv_ldc (v := (-1000000001 : Int32)) hx hb hown (hts (.constant RX5 216 (-1000000001)) (List.mem_of_getElem? (i := 1) rfl)) dX5_sheet_7 ?_
    exact W.iret (v := (-1000000001 : Int32)) hx hb hr (fun t ht hW => ⟨⟨(-1000000001 : Int32), (u, lt, sj), rfl, ⟨⟨nv, nl, nt, nh, hI0⟩, rfl, rfl, rfl, Or.inl ⟨rfl, ⟨rfl, rfl, rfl⟩, by assumption⟩⟩, show PP G (mw G h u lt sj) t.heap by rw [ht]; exact hP⟩, hS.F ht⟩) hS.2.2 dX5_sheet_9
set_option maxHeartbeats 1000000 in
set_option maxRecDepth 100000 in
theorem mt_X5_set (l : Launch) (G : gG) (h : Nat → Nat) (sz : Nat) (u : oS) (lt : Int64) (sj : Nat → Int64) (s1 : Int32) (i1 : Int32) (x : Int64) (nv nl nt nh : Nat) (hI : MIx u nv nl nt nh) : Met l yX5_set wsX5_set ({ frames := 3, cells := 0, slots := 0, locals := 68 }) (preW G (mw G h u lt sj) sz [.ref (h 0), .int s1, .int i1, .long x]) (va_Ql (fun (r : Int64) (v : oS × Int64 × (Nat → Int64)) => MIk u v.1) (fun v t => PP G (mw G h v.1 v.2.1 v.2.2) t.heap) (va_A (mw G h u lt sj) sz)) 0 0 (va_A (mw G h u lt sj) sz) := by
  refine Met.ofW (cc := cX5_set) (maxL := 8) (ret := (some .long)) (by decide) rfl ?_
  intro p e s m args below meth c s₁ B hml hv
  obtain ⟨ha, hsz, hP, hK, hN, hD0⟩ := hv
  subst ha
  have hx := B.exec
  have hb := B.bytes
  have hr := B.returns
  have hts := atoms_spec (ws := wsX5_set) B.pre
  have hown : s.vm.findClass RX5 = some m.cls := findClass_of_methodNamed B.named
  have hlocks := B.notSynchronized
  subst hsz
  have hD := hD0.self (sz := s.heap.size)
  generalize hAe : va_A (mw G h u lt sj) s.heap.size = A at hD ⊢
  have hA : ∀ q : Nat, s.heap.size ≤ q → A q := fun q h => by rw [← hAe]; exact Or.inr h
  clear hAe hD0
  have hS : va_S A s.heap s.heap [] := va_S.rf
  have hiX5 : ∀ w ∈ wsX50, w ∈ wsX5_set := by decide +kernel
  have k78 := hts (.fieldLink RX5 78 "WovenHistoryModel" "sheets" "[J") (List.mem_of_getElem? (i := 1) rfl)
  have hl := lv_entry ([.ref (h 0), .int s1, .int i1, .long x]) (n := 8) (Nat.le_of_ble_eq_true rfl)
  rw [lg_entry_eq]
  generalize (lg_sl ([.ref (h 0), .int s1, .int i1, .long x]) ++ List.replicate (8 - (lg_sl ([.ref (h 0), .int s1, .int i1, .long x])).length) Slot.unset).toArray = ls at hl ⊢
  have hl : lv_has ls 8 [(0, .ref (h 0)), (1, .int s1), (2, .int i1), (3, .long x)] := hl
  have hI0 := hI
  obtain ⟨hnv, hnl, hnt, hnh, hnv24, hnl120, hnt240, hnh120, hop, hopn, hparV, hsz4, himg⟩ := hI
  refine lv_aload_n hx hb dX5_set_0 rfl (lv_at hl 0 rfl) ?_
  refine lv_iload_n hx hb dX5_set_1 rfl (lv_at hl 1 rfl) ?_
  refine lv_iload_n hx hb dX5_set_2 rfl (lv_at hl 2 rfl) ?_
  refine lv_iconst (v := nI 1) hx hb dX5_set_3 (by decide) ?_
  refine cRi (w := mw G h u lt sj) (As := [.int s1, .int i1, .int (nI 1)]) (rest := []) ⟨hx, hb, hml, hown, hts⟩ (mt_X5_refused l G h u lt sj s1 i1 1 (by first | assumption | omega) (by first | assumption | omega)) (cwV 3 hts gX5_set_X5_refused rfl rfl rfl (by decide +kernel) ⟨Nat.le_of_ble_eq_true rfl, Nat.le_of_ble_eq_true rfl⟩) hK hN hP 0 5 rfl rfl rfl hl.1 rfl (Nat.le_of_ble_eq_true rfl) ⟨Nat.zero_le _, Nat.zero_le _⟩ dX5_set_4 (fun r4 hw4 => ?_)
  rcases hw4 with ⟨rfl, js4, ji4, z4, hjs4, rfl, hth4, hz4, ez4, rfl, hji4⟩ | ⟨rfl, hnu4⟩ | ⟨rfl, js4, hjs4, ejs4, hth4⟩ | ⟨rfl, js4, z4, hjs4, ejs4, hth4, hz4, ez4, hpl4⟩
  · skip
    refine lv_istore (lv' := [(5, .int (0 : Int32)), (0, .ref (h 0)), (1, .int (nI js4)), (2, .int (nI ji4)), (3, .long x)]) hx hb dX5_set_7 hl (by decide) rfl (fun ls hl => ?_)
    refine lv_iload hx hb dX5_set_9 (lv_at hl 0 rfl) ?_
    refine lv_if_eq (tgt := 18) hx hb dX5_set_11 (by decide) (fun _ => ?_) (fun c9 => absurd (by decide) c9)
    refine lv_aload_n hx hb dX5_set_18 rfl (lv_at hl 1 rfl) ?_
    refine va_get (D := gD G) (ci := 5) (v := .ref (h 34)) (C := RX5) (T := TX5) (N := 38) hx hb hts hiX5 hown hK hP 0 rfl rfl 34 (by decide) k78 (fun _ h9 => h9) rfl dX5_set_19 ?_
    refine lv_bipush (v := nI 40) hx hb dX5_set_22 (by decide) ?_
    refine lv_iload_n hx hb dX5_set_24 rfl (lv_at hl 2 rfl) ?_
    refine lv_imul hx hb dX5_set_25 ?_
    refine topE (y := nI (40 * js4)) (pk_mul 40 js4) ?_
    refine lv_iload_n hx hb dX5_set_26 rfl (lv_at hl 3 rfl) ?_
    refine lv_iadd hx hb dX5_set_27 ?_
    refine topE (y := nI ((40 * js4) + ji4)) (nI_add (40 * js4) ji4) ?_
    refine laldN (f := sj) (n := 160) (k := (40 * js4) + ji4) hx hb hK hP 22 rfl rfl (by omega) dX5_set_28 ?_
    refine lv_lstore (lv' := [(6, .long (sj ((40 * js4) + ji4))), (5, .int (0 : Int32)), (0, .ref (h 0)), (1, .int (nI js4)), (2, .int (nI ji4)), (3, .long x)]) hx hb dX5_set_29 hl (by decide) rfl (fun ls hl => ?_)
    refine lv_aload_n hx hb dX5_set_31 rfl (lv_at hl 2 rfl) ?_
    refine va_get (D := gD G) (ci := 5) (v := .ref (h 34)) (C := RX5) (T := TX5) (N := 38) hx hb hts hiX5 hown hK hP 0 rfl rfl 34 (by decide) k78 (fun _ h9 => h9) rfl dX5_set_32 ?_
    refine lv_bipush (v := nI 40) hx hb dX5_set_35 (by decide) ?_
    refine lv_iload_n hx hb dX5_set_37 rfl (lv_at hl 3 rfl) ?_
    refine lv_imul hx hb dX5_set_38 ?_
    refine topE (y := nI (40 * js4)) (pk_mul 40 js4) ?_
    refine lv_iload_n hx hb dX5_set_39 rfl (lv_at hl 4 rfl) ?_
    refine lv_iadd hx hb dX5_set_40 ?_
    refine topE (y := nI ((40 * js4) + ji4)) (nI_add (40 * js4) ji4) ?_
    refine lv_lload_n hx hb dX5_set_41 rfl (lv_at hl 5 rfl) ?_
    refine lastN (f := sj) (n := 160) (k := (40 * js4) + ji4) hx hb hK hP hD hS 22 rfl rfl (by omega) dX5_set_42 (fun H locs hP hD hS => ?_)
    have hP : PP G (mw G h u lt (vp_updL sj ((40 * js4) + ji4) x)) H := hP
    have hD : va_D A (mw G h u lt (vp_updL sj ((40 * js4) + ji4) x)) := hD
    refine lv_lload hx hb dX5_set_43 (lv_at hl 0 rfl) ?_
    exact W.lret (v := sj ((40 * js4) + ji4)) hx hb hr (fun t ht hW => ⟨⟨sj ((40 * js4) + ji4), (u, lt, vp_updL sj ((40 * js4) + ji4) x), rfl, ⟨⟨nv, nl, nt, nh, hI0⟩, ⟨rfl, rfl, rfl⟩, rfl, rfl⟩, show PP G (mw G h u lt (vp_updL sj ((40 * js4) + ji4) x)) t.heap by rw [ht]; exact hP⟩, hS.F ht⟩) hS.2.2 dX5_set_45
  · skip
    refine lv_istore (lv' := [(5, .int (-1000000001 : Int32)), (0, .ref (h 0)), (1, .int s1), (2, .int i1), (3, .long x)]) hx hb dX5_set_7 hl (by decide) rfl (fun ls hl => ?_)
    refine lv_iload hx hb dX5_set_9 (lv_at hl 0 rfl) ?_
    refine lv_if_eq (tgt := 18) hx hb dX5_set_11 (by decide) (fun c9 => absurd c9 (by decide)) (fun _ => ?_)
    refine lv_iload hx hb dX5_set_14 (lv_at hl 0 rfl) ?_
    refine lv_i2l (v := (-1000000001 : Int32).toInt64) hx hb dX5_set_16 rfl ?_
    exact W.lret (v := (-1000000001 : Int32).toInt64) hx hb hr (fun t ht hW => ⟨⟨(-1000000001 : Int32).toInt64, (u, lt, sj), rfl, ⟨⟨nv, nl, nt, nh, hI0⟩, ⟨rfl, rfl, rfl⟩, rfl, rfl⟩, show PP G (mw G h u lt sj) t.heap by rw [ht]; exact hP⟩, hS.F ht⟩) hS.2.2 dX5_set_17
  · skip
    refine lv_istore (lv' := [(5, .int (-1000000011 : Int32)), (0, .ref (h 0)), (1, .int s1), (2, .int i1), (3, .long x)]) hx hb dX5_set_7 hl (by decide) rfl (fun ls hl => ?_)
    refine lv_iload hx hb dX5_set_9 (lv_at hl 0 rfl) ?_
    refine lv_if_eq (tgt := 18) hx hb dX5_set_11 (by decide) (fun c9 => absurd c9 (by decide)) (fun _ => ?_)
    refine lv_iload hx hb dX5_set_14 (lv_at hl 0 rfl) ?_
    refine lv_i2l (v := (-1000000011 : Int32).toInt64) hx hb dX5_set_16 rfl ?_
    exact W.lret (v := (-1000000011 : Int32).toInt64) hx hb hr (fun t ht hW => ⟨⟨(-1000000011 : Int32).toInt64, (u, lt, sj), rfl, ⟨⟨nv, nl, nt, nh, hI0⟩, ⟨rfl, rfl, rfl⟩, rfl, rfl⟩, show PP G (mw G h u lt sj) t.heap by rw [ht]; exact hP⟩, hS.F ht⟩) hS.2.2 dX5_set_17
  · skip
    refine lv_istore (lv' := [(5, .int (-1000000012 : Int32)), (0, .ref (h 0)), (1, .int s1), (2, .int i1), (3, .long x)]) hx hb dX5_set_7 hl (by decide) rfl (fun ls hl => ?_)
    refine lv_iload hx hb dX5_set_9 (lv_at hl 0 rfl) ?_
    refine lv_if_eq (tgt := 18) hx hb dX5_set_11 (by decide) (fun c9 => absurd c9 (by decide)) (fun _ => ?_)
    refine lv_iload hx hb dX5_set_14 (lv_at hl 0 rfl) ?_
    refine lv_i2l (v := (-1000000012 : Int32).toInt64) hx hb dX5_set_16 rfl ?_
    exact W.lret (v := (-1000000012 : Int32).toInt64) hx hb hr (fun t ht hW => ⟨⟨(-1000000012 : Int32).toInt64, (u, lt, sj), rfl, ⟨⟨nv, nl, nt, nh, hI0⟩, ⟨rfl, rfl, rfl⟩, rfl, rfl⟩, show PP G (mw G h u lt sj) t.heap by rw [ht]; exact hP⟩, hS.F ht⟩) hS.2.2 dX5_set_17
set_option maxHeartbeats 1000000 in
set_option maxRecDepth 100000 in
theorem mt_X5_drop (l : Launch) (G : gG) (h : Nat → Nat) (sz : Nat) (u : oS) (lt : Int64) (sj : Nat → Int64) (s1 : Int32) (nv nl nt nh : Nat) (hI : MIx u nv nl nt nh) : Met l yX5_drop wsX5_drop ({ frames := 2, cells := 0, slots := 0, locals := 45 }) (preW G (mw G h u lt sj) sz [.ref (h 0), .int s1]) (va_Qi (fun (r : Int32) (v : oS × Int64 × (Nat → Int64)) => MIp v.1 ∧ v.1.1 10 = u.1 10 ∧ v.1.2 9 = u.2 9 ∧ v.1.1 11 = u.1 11 ∧ ((r = -1000000001 ∧ kpt u v.1 ∧ ∀ j, j < 4 → s1 ≠ nI j) ∨ (∃ j, j < 4 ∧ s1 = nI j ∧ u.2 32 j = 0 ∧ r = -1000000011 ∧ kpt u v.1) ∨ (∃ j, j < 4 ∧ s1 = nI j ∧ ¬ u.2 32 j = 0 ∧ r = u.2 33 j ∧ v.1.2 32 = upd (u.2 32) j (nI 0) ∧ v.1.2 33 = u.2 33))) (fun v t => PP G (mw G h v.1 v.2.1 v.2.2) t.heap) (va_A (mw G h u lt sj) sz)) 0 0 (va_A (mw G h u lt sj) sz) := by
  refine Met.ofW (cc := cX5_drop) (maxL := 2) (ret := (some .int)) (by decide) rfl ?_
  intro p e s m args below meth c s₁ B hml hv
  obtain ⟨ha, hsz, hP, hK, hN, hD0⟩ := hv
  subst ha
  have hx := B.exec
  have hb := B.bytes
  have hr := B.returns
  have hts := atoms_spec (ws := wsX5_drop) B.pre
  have hown : s.vm.findClass RX5 = some m.cls := findClass_of_methodNamed B.named
  have hlocks := B.notSynchronized
  subst hsz
  have hD := hD0.self (sz := s.heap.size)
  generalize hAe : va_A (mw G h u lt sj) s.heap.size = A at hD ⊢
  have hA : ∀ q : Nat, s.heap.size ≤ q → A q := fun q h => by rw [← hAe]; exact Or.inr h
  clear hAe hD0
  have hS : va_S A s.heap s.heap [] := va_S.rf
  have hiX5 : ∀ w ∈ wsX50, w ∈ wsX5_drop := by decide +kernel
  have k72 := hts (.fieldLink RX5 72 "WovenHistoryModel" "isThere" "[Z") (List.mem_of_getElem? (i := 2) rfl)
  have k75 := hts (.fieldLink RX5 75 "WovenHistoryModel" "sizes" "[I") (List.mem_of_getElem? (i := 4) rfl)
  have hl := lv_entry ([.ref (h 0), .int s1]) (n := 2) (Nat.le_of_ble_eq_true rfl)
  rw [lg_entry_eq]
  generalize (lg_sl ([.ref (h 0), .int s1]) ++ List.replicate (2 - (lg_sl ([.ref (h 0), .int s1])).length) Slot.unset).toArray = ls at hl ⊢
  have hl : lv_has ls 2 [(0, .ref (h 0)), (1, .int s1)] := hl
  have hI0 := hI
  obtain ⟨hnv, hnl, hnt, hnh, hnv24, hnl120, hnt240, hnh120, hop, hopn, hparV, hsz4, himg⟩ := hI
  refine lv_iload_n hx hb dX5_drop_0 rfl (lv_at hl 1 rfl) ?_
  refine cSi (As := [.int s1]) (rest := []) ⟨hx, hb, hml, hown, hts⟩ (mt_X5_isSheet l s1) (va_cwS 1 hts gX5_drop_X5_isSheet rfl rfl rfl (by decide +kernel) ⟨Nat.le_of_ble_eq_true rfl, Nat.le_of_ble_eq_true rfl⟩) rfl hl.1 rfl (Nat.le_of_ble_eq_true rfl) ⟨Nat.zero_le _, Nat.zero_le _⟩ dX5_drop_1 (fun r1 hw1 => ?_)
  rcases hw1 with ⟨rfl, j1, hj1, rfl⟩ | ⟨rfl, hn1⟩
  · skip
    refine lv_if_ne (tgt := 10) hx hb dX5_drop_4 (by decide) (fun _ => ?_) (fun c9 => absurd c9 (by decide))
    refine lv_aload_n hx hb dX5_drop_10 rfl (lv_at hl 0 rfl) ?_
    refine va_get (D := gD G) (ci := 5) (v := .ref (h 32)) (C := RX5) (T := TX5) (N := 38) hx hb hts hiX5 hown hK hP 0 rfl rfl 32 (by decide) k72 (fun _ h9 => h9) rfl dX5_drop_11 ?_
    refine lv_iload_n hx hb dX5_drop_14 rfl (lv_at hl 1 rfl) ?_
    refine zaldN (f := u.2 32) (n := 4) (k := j1) hx hb hK hP 20 rfl rfl (by omega) dX5_drop_15 ?_
    refine lv_if_ne (tgt := 23) hx hb dX5_drop_16 (by decide) (fun c16 => ?_) (fun c16 => ?_)
    · skip
      refine lv_aload_n hx hb dX5_drop_23 rfl (lv_at hl 0 rfl) ?_
      refine va_get (D := gD G) (ci := 5) (v := .ref (h 32)) (C := RX5) (T := TX5) (N := 38) hx hb hts hiX5 hown hK hP 0 rfl rfl 32 (by decide) k72 (fun _ h9 => h9) rfl dX5_drop_24 ?_
      refine lv_iload_n hx hb dX5_drop_27 rfl (lv_at hl 1 rfl) ?_
      refine lv_iconst (v := nI 0) hx hb dX5_drop_28 (by decide) ?_
      refine zastN (f := u.2 32) (n := 4) (k := j1) hx hb hK hP hD hS 20 rfl rfl (by omega) (Or.inl rfl) dX5_drop_29 (fun H locs hP hD hS => ?_)
      have hP : PP G (mw G h (oA u 32 (upd (u.2 32) j1 (nI 0))) lt sj) H := hP
      have hD : va_D A (mw G h (oA u 32 (upd (u.2 32) j1 (nI 0))) lt sj) := hD
      refine lv_aload_n hx hb dX5_drop_30 rfl (lv_at hl 0 rfl) ?_
      refine va_get (D := gD G) (ci := 5) (v := .ref (h 33)) (C := RX5) (T := TX5) (N := 38) hx hb hts hiX5 hown hK hP 0 rfl rfl 33 (by decide) k75 (fun _ h9 => h9) rfl dX5_drop_31 ?_
      refine lv_iload_n hx hb dX5_drop_34 rfl (lv_at hl 1 rfl) ?_
      refine ialdN (f := (oA u 32 (upd (u.2 32) j1 (nI 0))).2 33) (n := 4) (k := j1) hx hb hK hP 21 rfl rfl (by omega) dX5_drop_35 ?_
      exact W.iret (v := ((oA u 32 (upd (u.2 32) j1 (nI 0))).2 33) j1) hx hb hr (fun t ht hW => ⟨⟨((oA u 32 (upd (u.2 32) j1 (nI 0))).2 33) j1, (oA u 32 (upd (u.2 32) j1 (nI 0)), lt, sj), rfl, ⟨⟨nv, nl, nt, nh, hI0⟩, rfl, rfl, rfl, Or.inr (Or.inr ⟨j1, hj1, rfl, by assumption, rfl, rfl, rfl⟩)⟩, show PP G (mw G h (oA u 32 (upd (u.2 32) j1 (nI 0))) lt sj) t.heap by rw [ht]; exact hP⟩, hS.F ht⟩) hS.2.2 dX5_drop_36
    · skip
      refine lv_ldcw (v := (-1000000011 : Int32)) hx hb hown (hts (.constant RX5 283 (-1000000011)) (List.mem_of_getElem? (i := 3) rfl)) dX5_drop_19 ?_
      exact W.iret (v := (-1000000011 : Int32)) hx hb hr (fun t ht hW => ⟨⟨(-1000000011 : Int32), (u, lt, sj), rfl, ⟨⟨nv, nl, nt, nh, hI0⟩, rfl, rfl, rfl, Or.inr (Or.inl ⟨j1, hj1, rfl, by assumption, rfl, rfl, rfl, rfl⟩)⟩, show PP G (mw G h u lt sj) t.heap by rw [ht]; exact hP⟩, hS.F ht⟩) hS.2.2 dX5_drop_22
  · skip
    refine lv_if_ne (tgt := 10) hx hb dX5_drop_4 (by decide) (fun c9 => absurd (by decide) c9) (fun _ => ?_)
    refine lv_ldc (v := (-1000000001 : Int32)) hx hb hown (hts (.constant RX5 216 (-1000000001)) (List.mem_of_getElem? (i := 1) rfl)) dX5_drop_7 ?_
    exact W.iret (v := (-1000000001 : Int32)) hx hb hr (fun t ht hW => ⟨⟨(-1000000001 : Int32), (u, lt, sj), rfl, ⟨⟨nv, nl, nt, nh, hI0⟩, rfl, rfl, rfl, Or.inl ⟨rfl, ⟨rfl, rfl, rfl⟩, by assumption⟩⟩, show PP G (mw G h u lt sj) t.heap by rw [ht]; exact hP⟩, hS.F ht⟩) hS.2.2 dX5_drop_9
set_option maxHeartbeats 1000000 in
set_option maxRecDepth 100000 in
theorem mt_X5_film (l : Launch) (G : gG) (h : Nat → Nat) (sz : Nat) (u : oS) (lt : Int64) (sj : Nat → Int64) (a : Int32) (s1 : Int32) (i1 : Int32) (nv nl nt nh : Nat) (hI : MIx u nv nl nt nh) : Met l yX5_film wsX5_film ({ frames := 3, cells := 0, slots := 0, locals := 68 }) (preW G (mw G h u lt sj) sz [.ref (h 0), .int a, .int s1, .int i1]) (va_Qi (fun (r : Int32) (v : oS × Int64 × (Nat → Int64)) => MIk u v.1) (fun v t => PP G (mw G h v.1 v.2.1 v.2.2) t.heap) (va_A (mw G h u lt sj) sz)) 0 0 (va_A (mw G h u lt sj) sz) := by
  refine Met.ofW (cc := cX5_film) (maxL := 9) (ret := (some .int)) (by decide) rfl ?_
  intro p e s m args below meth c s₁ B hml hv
  obtain ⟨ha, hsz, hP, hK, hN, hD0⟩ := hv
  subst ha
  have hx := B.exec
  have hb := B.bytes
  have hr := B.returns
  have hts := atoms_spec (ws := wsX5_film) B.pre
  have hown : s.vm.findClass RX5 = some m.cls := findClass_of_methodNamed B.named
  have hlocks := B.notSynchronized
  subst hsz
  have hD := hD0.self (sz := s.heap.size)
  generalize hAe : va_A (mw G h u lt sj) s.heap.size = A at hD ⊢
  have hA : ∀ q : Nat, s.heap.size ≤ q → A q := fun q h => by rw [← hAe]; exact Or.inr h
  clear hAe hD0
  have hS : va_S A s.heap s.heap [] := va_S.rf
  have hiX5 : ∀ w ∈ wsX50, w ∈ wsX5_film := by decide +kernel
  have k78 := hts (.fieldLink RX5 78 "WovenHistoryModel" "sheets" "[J") (List.mem_of_getElem? (i := 2) rfl)
  have k19 := hts (.fieldLink RX5 19 "WovenHistoryModel" "letter" "[I") (List.mem_of_getElem? (i := 3) rfl)
  have k22 := hts (.fieldLink RX5 22 "WovenHistoryModel" "brought" "[I") (List.mem_of_getElem? (i := 5) rfl)
  have hl := lv_entry ([.ref (h 0), .int a, .int s1, .int i1]) (n := 9) (Nat.le_of_ble_eq_true rfl)
  rw [lg_entry_eq]
  generalize (lg_sl ([.ref (h 0), .int a, .int s1, .int i1]) ++ List.replicate (9 - (lg_sl ([.ref (h 0), .int a, .int s1, .int i1])).length) Slot.unset).toArray = ls at hl ⊢
  have hl : lv_has ls 9 [(0, .ref (h 0)), (1, .int a), (2, .int s1), (3, .int i1)] := hl
  have hI0 := hI
  obtain ⟨hnv, hnl, hnt, hnh, hnv24, hnl120, hnt240, hnh120, hop, hopn, hparV, hsz4, himg⟩ := hI
  refine lv_aload_n hx hb dX5_film_0 rfl (lv_at hl 0 rfl) ?_
  refine lv_iload_n hx hb dX5_film_1 rfl (lv_at hl 1 rfl) ?_
  refine cRi (w := mw G h u lt sj) (As := [.int a]) (rest := []) ⟨hx, hb, hml, hown, hts⟩ (mt_X5_isVersion l G h u lt sj nv a (hnv) (by first | assumption | omega)) (cwV 1 hts gX5_film_X5_isVersion rfl rfl rfl (by decide +kernel) ⟨Nat.le_of_ble_eq_true rfl, Nat.le_of_ble_eq_true rfl⟩) hK hN hP 0 5 rfl rfl rfl hl.1 rfl (Nat.le_of_ble_eq_true rfl) ⟨Nat.zero_le _, Nat.zero_le _⟩ dX5_film_2 (fun r2 hw2 => ?_)
  rcases hw2 with ⟨rfl, a1, ha1, rfl⟩ | ⟨rfl, hna1⟩
  · skip
    refine lv_if_eq (tgt := 15) hx hb dX5_film_5 (by decide) (fun c9 => absurd c9 (by decide)) (fun _ => ?_)
    refine lv_iload_n hx hb dX5_film_8 rfl (lv_at hl 2 rfl) ?_
    refine cSi (As := [.int s1]) (rest := []) ⟨hx, hb, hml, hown, hts⟩ (mt_X5_isSheet l s1) (va_cwS 1 hts gX5_film_X5_isSheet rfl rfl rfl (by decide +kernel) ⟨Nat.le_of_ble_eq_true rfl, Nat.le_of_ble_eq_true rfl⟩) rfl hl.1 rfl (Nat.le_of_ble_eq_true rfl) ⟨Nat.zero_le _, Nat.zero_le _⟩ dX5_film_9 (fun r9 hw9 => ?_)
    rcases hw9 with ⟨rfl, j9, hj9, ej9⟩ | ⟨rfl, hn9⟩
    · skip
      refine lv_if_ne (tgt := 18) hx hb dX5_film_12 (by decide) (fun _ => ?_) (fun c9 => absurd c9 (by decide))
      refine lv_aload_n hx hb dX5_film_18 rfl (lv_at hl 0 rfl) ?_
      refine lv_iload_n hx hb dX5_film_19 rfl (lv_at hl 1 rfl) ?_
      have hP := mw_self26 hP
      have hD : va_D A (mw G h (oA u 26 (u.2 26)) lt sj) := mw_self26D hD
      refine cXi (As := [.int (nI a1)]) (rest := []) (S := oS × Int64 × (Nat → Int64)) (wa := mw G h (oA u 26 (u.2 26)) lt sj) (w1 := fun v => mw G h v.1 v.2.1 v.2.2) ⟨hx, hb, hml, hown, hts⟩ (mt_X5_changesOf l G h _ u lt sj (u.2 26) a1 (by first | assumption | omega) (hparV.le (by omega))) (cwV 1 hts gX5_film_X5_changesOf rfl rfl rfl (by decide +kernel) ⟨Nat.le_of_ble_eq_true rfl, Nat.le_of_ble_eq_true rfl⟩) hK hN hP hD hS hA (fun _ => rfl) 0 5 rfl rfl rfl hl.1 rfl (Nat.le_of_ble_eq_true rfl) ⟨Nat.zero_le _, Nat.zero_le _⟩ dX5_film_20 (fun r20 u20 H locs hw20 hP hD hS => ?_)
      obtain ⟨g20, rfl, rfl⟩ := hw20
      have hP : PP G (mw G h (oA u 26 g20) lt sj) H := hP
      have hD : va_D A (mw G h (oA u 26 g20) lt sj) := hD
      refine lv_istore (lv' := [(4, .int (chV (u.2 1) (u.2 2) (u.2 3) (nI a1))), (0, .ref (h 0)), (1, .int (nI a1)), (2, .int s1), (3, .int i1)]) hx hb dX5_film_23 hl (by decide) rfl (fun ls hl => ?_)
      refine lv_aload_n hx hb dX5_film_25 rfl (lv_at hl 1 rfl) ?_
      refine lv_iload hx hb dX5_film_26 (lv_at hl 0 rfl) ?_
      refine cRi (w := mw G h (oA u 26 g20) lt sj) (As := [.int (chV (u.2 1) (u.2 2) (u.2 3) (nI a1))]) (rest := []) ⟨hx, hb, hml, hown, hts⟩ (mt_X5_manyOf l G h (oA u 26 g20) lt sj nl (chV (u.2 1) (u.2 2) (u.2 3) (nI a1)) (hnl) (by first | assumption | omega)) (cwV 1 hts gX5_film_X5_manyOf rfl rfl rfl (by decide +kernel) ⟨Nat.le_of_ble_eq_true rfl, Nat.le_of_ble_eq_true rfl⟩) hK hN hP 0 5 rfl rfl rfl hl.1 rfl (Nat.le_of_ble_eq_true rfl) ⟨Nat.zero_le _, Nat.zero_le _⟩ dX5_film_28 (fun r28 hw28 => ?_)
      obtain rfl := hw28
      have hc28 := cnt_le (sdb (u.2 6) (u.2 7) (chV (u.2 1) (u.2 2) (u.2 3) (nI a1))) nl
      refine lv_istore (lv' := [(5, .int (nI (cnt (sdb (u.2 6) (u.2 7) (chV (u.2 1) (u.2 2) (u.2 3) (nI a1))) nl))), (4, .int (chV (u.2 1) (u.2 2) (u.2 3) (nI a1))), (0, .ref (h 0)), (1, .int (nI a1)), (2, .int s1), (3, .int i1)]) hx hb dX5_film_31 hl (by decide) rfl (fun ls hl => ?_)
      refine lv_aload_n hx hb dX5_film_33 rfl (lv_at hl 2 rfl) ?_
      refine lv_iload_n hx hb dX5_film_34 rfl (lv_at hl 4 rfl) ?_
      refine lv_iload_n hx hb dX5_film_35 rfl (lv_at hl 5 rfl) ?_
      refine lv_iload hx hb dX5_film_36 (lv_at hl 0 rfl) ?_
      refine cRi (w := mw G h (oA u 26 g20) lt sj) (As := [.int s1, .int i1, .int (nI (cnt (sdb (u.2 6) (u.2 7) (chV (u.2 1) (u.2 2) (u.2 3) (nI a1))) nl))]) (rest := []) ⟨hx, hb, hml, hown, hts⟩ (mt_X5_refused l G h (oA u 26 g20) lt sj s1 i1 (cnt (sdb (u.2 6) (u.2 7) (chV (u.2 1) (u.2 2) (u.2 3) (nI a1))) nl) (by first | assumption | omega) (by omega)) (cwV 3 hts gX5_film_X5_refused rfl rfl rfl (by decide +kernel) ⟨Nat.le_of_ble_eq_true rfl, Nat.le_of_ble_eq_true rfl⟩) hK hN hP 0 5 rfl rfl rfl hl.1 rfl (Nat.le_of_ble_eq_true rfl) ⟨Nat.zero_le _, Nat.zero_le _⟩ dX5_film_38 (fun r38 hw38 => ?_)
      rcases hw38 with ⟨rfl, js38, ji38, z38, hjs38, rfl, hth38, hz38, ez38, rfl, hji38⟩ | ⟨rfl, hnu38⟩ | ⟨rfl, js38, hjs38, ejs38, hth38⟩ | ⟨rfl, js38, z38, hjs38, ejs38, hth38, hz38, ez38, hpl38⟩
      · skip
        refine lv_istore (lv' := [(6, .int (0 : Int32)), (5, .int (nI (cnt (sdb (u.2 6) (u.2 7) (chV (u.2 1) (u.2 2) (u.2 3) (nI a1))) nl))), (4, .int (chV (u.2 1) (u.2 2) (u.2 3) (nI a1))), (0, .ref (h 0)), (1, .int (nI a1)), (2, .int (nI js38)), (3, .int (nI ji38))]) hx hb dX5_film_41 hl (by decide) rfl (fun ls hl => ?_)
        refine lv_iload hx hb dX5_film_43 (lv_at hl 0 rfl) ?_
        refine lv_if_eq (tgt := 51) hx hb dX5_film_45 (by decide) (fun _ => ?_) (fun c9 => absurd (by decide) c9)
        refine lv_iconst (v := nI 0) hx hb dX5_film_51 (by decide) ?_
        refine lv_istore (lv' := [(7, .int (nI 0)), (6, .int (0 : Int32)), (5, .int (nI (cnt (sdb (u.2 6) (u.2 7) (chV (u.2 1) (u.2 2) (u.2 3) (nI a1))) nl))), (4, .int (chV (u.2 1) (u.2 2) (u.2 3) (nI a1))), (0, .ref (h 0)), (1, .int (nI a1)), (2, .int (nI js38)), (3, .int (nI ji38))]) hx hb dX5_film_52 hl (by decide) rfl (fun ls hl => ?_)
        have LP54 : ∀ (n54m : Nat), ∀ (k : Nat) (g : Nat → Int32) (ss : Nat → Int64) (hk : k ≤ cnt (sdb (u.2 6) (u.2 7) (chV (u.2 1) (u.2 2) (u.2 3) (nI a1))) nl), (cnt (sdb (u.2 6) (u.2 7) (chV (u.2 1) (u.2 2) (u.2 3) (nI a1))) nl - k < n54m) → ∀ (H : Heap) (locs : List Loc) (ls : Array Slot), PP G (mw G h (oA u 26 g) lt ss) H → va_D A (mw G h (oA u 26 g) lt ss) → va_S A s.heap H locs → lv_has ls 9 [(0, .ref (h 0)), (2, .int (nI js38)), (3, .int (nI ji38)), (4, .int (chV (u.2 1) (u.2 2) (u.2 3) (nI a1))), (5, .int (nI (cnt (sdb (u.2 6) (u.2 7) (chV (u.2 1) (u.2 2) (u.2 3) (nI a1))) nl))), (7, .int (nI k))] → W p l e (headSpec wsX5_film ({ frames := 3, cells := 0, slots := 0, locals := 68 })).room s m ([.ref (h 0), .int (nI a1), .int (nI js38), .int (nI ji38)] : List Value).toArray below meth c H locs 0 0 (MQ below (va_Qi (fun (r : Int32) (v : oS × Int64 × (Nat → Int64)) => MIk u v.1) (fun v t => PP G (mw G h v.1 v.2.1 v.2.2) t.heap) A) ([.ref (h 0), .int (nI a1), .int (nI js38), .int (nI ji38)] : List Value).toArray s 0 0 A) (F0 m 54 ls []) := by
          intro n54m
          induction n54m with
          | zero => intro k g ss hk hmu H locs ls hP hD hS hl; exact absurd hmu (Nat.not_lt_zero _)
          | succ n54m ih54 =>
            intro k g ss hk hmu H locs ls hP hD hS hl
            refine lv_iload hx hb dX5_film_54 (lv_at hl 5 rfl) ?_
            refine lv_iload hx hb dX5_film_56 (lv_at hl 4 rfl) ?_
            refine lv_icmp_ge (tgt := 124) hx hb dX5_film_58 (by decide) (fun c58 => ?_) (fun c58 => ?_)
            · skip
              have n58 : (cnt (sdb (u.2 6) (u.2 7) (chV (u.2 1) (u.2 2) (u.2 3) (nI a1))) nl) ≤ k := (nI_leI (a := cnt (sdb (u.2 6) (u.2 7) (chV (u.2 1) (u.2 2) (u.2 3) (nI a1))) nl) (b := k) (by omega) (by omega)).mp c58
              refine lv_iload hx hb dX5_film_124 (lv_at hl 4 rfl) ?_
              exact W.iret (v := nI (cnt (sdb (u.2 6) (u.2 7) (chV (u.2 1) (u.2 2) (u.2 3) (nI a1))) nl)) hx hb hr (fun t ht hW => ⟨⟨nI (cnt (sdb (u.2 6) (u.2 7) (chV (u.2 1) (u.2 2) (u.2 3) (nI a1))) nl), (oA u 26 g, lt, ss), rfl, ⟨⟨nv, nl, nt, nh, hI0⟩, ⟨rfl, rfl, rfl⟩, rfl, rfl⟩, show PP G (mw G h (oA u 26 g) lt ss) t.heap by rw [ht]; exact hP⟩, hS.F ht⟩) hS.2.2 dX5_film_126
            · skip
              have n58 : ¬ ((cnt (sdb (u.2 6) (u.2 7) (chV (u.2 1) (u.2 2) (u.2 3) (nI a1))) nl) ≤ k) := fun q9 => c58 ((nI_leI (a := cnt (sdb (u.2 6) (u.2 7) (chV (u.2 1) (u.2 2) (u.2 3) (nI a1))) nl) (b := k) (by omega) (by omega)).mpr q9)
              refine lv_aload_n hx hb dX5_film_61 rfl (lv_at hl 0 rfl) ?_
              refine lv_iload hx hb dX5_film_62 (lv_at hl 3 rfl) ?_
              refine lv_iload hx hb dX5_film_64 (lv_at hl 5 rfl) ?_
              refine cRi (w := mw G h (oA u 26 g) lt ss) (As := [.int (chV (u.2 1) (u.2 2) (u.2 3) (nI a1)), .int (nI k)]) (rest := []) ⟨hx, hb, hml, hown, hts⟩ (mt_X5_lineAt l G h (oA u 26 g) lt ss nl (chV (u.2 1) (u.2 2) (u.2 3) (nI a1)) k (hnl) (by first | assumption | omega) (by omega)) (cwV 2 hts gX5_film_X5_lineAt rfl rfl rfl (by decide +kernel) ⟨Nat.le_of_ble_eq_true rfl, Nat.le_of_ble_eq_true rfl⟩) hK hN hP 0 5 rfl rfl rfl hl.1 rfl (Nat.le_of_ble_eq_true rfl) ⟨Nat.zero_le _, Nat.zero_le _⟩ dX5_film_66 (fun r66 hw66 => ?_)
              rcases hw66 with ⟨i66, hi66, hp66, hq66, rfl⟩ | ⟨hq66, rfl⟩
              · skip
                refine lv_istore (lv' := [(8, .int (nI i66)), (0, .ref (h 0)), (2, .int (nI js38)), (3, .int (nI ji38)), (4, .int (chV (u.2 1) (u.2 2) (u.2 3) (nI a1))), (5, .int (nI (cnt (sdb (u.2 6) (u.2 7) (chV (u.2 1) (u.2 2) (u.2 3) (nI a1))) nl))), (7, .int (nI k))]) hx hb dX5_film_69 hl (by decide) rfl (fun ls hl => ?_)
                refine lv_aload_n hx hb dX5_film_71 rfl (lv_at hl 1 rfl) ?_
                refine va_get (D := gD G) (ci := 5) (v := .ref (h 34)) (C := RX5) (T := TX5) (N := 38) hx hb hts hiX5 hown hK hP 0 rfl rfl 34 (by decide) k78 (fun _ h9 => h9) rfl dX5_film_72 ?_
                refine lv_bipush (v := nI 40) hx hb dX5_film_75 (by decide) ?_
                refine lv_iload_n hx hb dX5_film_77 rfl (lv_at hl 2 rfl) ?_
                refine lv_imul hx hb dX5_film_78 ?_
                refine topE (y := nI (40 * js38)) (pk_mul 40 js38) ?_
                refine lv_iload_n hx hb dX5_film_79 rfl (lv_at hl 3 rfl) ?_
                refine lv_iadd hx hb dX5_film_80 ?_
                refine topE (y := nI ((40 * js38) + ji38)) (nI_add (40 * js38) ji38) ?_
                refine lv_iload hx hb dX5_film_81 (lv_at hl 6 rfl) ?_
                refine lv_iadd hx hb dX5_film_83 ?_
                refine topE (y := nI (((40 * js38) + ji38) + k)) (nI_add ((40 * js38) + ji38) k) ?_
                refine lv_aload_n hx hb dX5_film_84 rfl (lv_at hl 1 rfl) ?_
                refine va_get (D := gD G) (ci := 5) (v := .ref (h 5)) (C := RX5) (T := TX5) (N := 38) hx hb hts hiX5 hown hK hP 0 rfl rfl 5 (by decide) k19 (fun _ h9 => h9) rfl dX5_film_85 ?_
                refine lv_iload hx hb dX5_film_88 (lv_at hl 0 rfl) ?_
                refine ialdN (f := u.2 5) (n := 120) (k := i66) hx hb hK hP 4 rfl rfl (by omega) dX5_film_90 ?_
                refine lv_i2l (v := ((u.2 5) i66).toInt64) hx hb dX5_film_91 rfl ?_
                refine lv_ldc2 (v := 256) hx hb hown (hts (.constantLong RX5 289 (256)) (List.mem_of_getElem? (i := 4) rfl)) dX5_film_92 ?_
                refine lv_aload_n hx hb dX5_film_95 rfl (lv_at hl 1 rfl) ?_
                refine va_get (D := gD G) (ci := 5) (v := .ref (h 6)) (C := RX5) (T := TX5) (N := 38) hx hb hts hiX5 hown hK hP 0 rfl rfl 6 (by decide) k22 (fun _ h9 => h9) rfl dX5_film_96 ?_
                refine lv_iload hx hb dX5_film_99 (lv_at hl 0 rfl) ?_
                refine ialdN (f := u.2 6) (n := 120) (k := i66) hx hb hK hP 5 rfl rfl (by omega) dX5_film_101 ?_
                refine lv_i2l (v := ((u.2 6) i66).toInt64) hx hb dX5_film_102 rfl ?_
                refine lv_lmul hx hb dX5_film_103 ?_
                refine lv_ladd hx hb dX5_film_104 ?_
                refine lv_ldc2 (v := 65536) hx hb hown (hts (.constantLong RX5 291 (65536)) (List.mem_of_getElem? (i := 6) rfl)) dX5_film_105 ?_
                refine lv_aload_n hx hb dX5_film_108 rfl (lv_at hl 1 rfl) ?_
                refine lv_iload hx hb dX5_film_109 (lv_at hl 0 rfl) ?_
                refine cXi (As := [.int (nI i66)]) (rest := [.long 65536, .long ((((u.2 5) i66).toInt64) + (256 * (((u.2 6) i66).toInt64))), .int (nI (((40 * js38) + ji38) + k)), .ref (h 34)]) (S := oS × Int64 × (Nat → Int64)) (wa := mw G h (oA u 26 g) lt ss) (w1 := fun v => mw G h v.1 v.2.1 v.2.2) ⟨hx, hb, hml, hown, hts⟩ (mt_X5_lifeOf l G h _ u lt ss g nv i66 (hnv) (by first | assumption | omega) (by first | assumption | omega) (by first | assumption | omega)) (cwV 1 hts gX5_film_X5_lifeOf rfl rfl rfl (by decide +kernel) ⟨Nat.le_of_ble_eq_true rfl, Nat.le_of_ble_eq_true rfl⟩) hK hN hP hD hS hA (fun _ => rfl) 0 5 rfl rfl rfl hl.1 rfl (Nat.le_of_ble_eq_true rfl) ⟨Nat.zero_le _, Nat.zero_le _⟩ dX5_film_111 (fun r111 u111 H locs hw111 hP hD hS => ?_)
                obtain ⟨g111, rfl⟩ := hw111
                have hP : PP G (mw G h (oA u 26 g111) lt ss) H := hP
                have hD : va_D A (mw G h (oA u 26 g111) lt ss) := hD
                refine lv_i2l (v := r111.toInt64) hx hb dX5_film_114 rfl ?_
                refine lv_lmul hx hb dX5_film_115 ?_
                refine lv_ladd hx hb dX5_film_116 ?_
                refine lastN (f := ss) (n := 160) (k := ((40 * js38) + ji38) + k) hx hb hK hP hD hS 22 rfl rfl (by omega) dX5_film_117 (fun H locs hP hD hS => ?_)
                have hP : PP G (mw G h (oA u 26 g111) lt (vp_updL ss (((40 * js38) + ji38) + k) (((((u.2 5) i66).toInt64) + (256 * (((u.2 6) i66).toInt64))) + (65536 * r111.toInt64)))) H := hP
                have hD : va_D A (mw G h (oA u 26 g111) lt (vp_updL ss (((40 * js38) + ji38) + k) (((((u.2 5) i66).toInt64) + (256 * (((u.2 6) i66).toInt64))) + (65536 * r111.toInt64)))) := hD
                refine lv_iinc (v := nI (k + 1)) (lv' := [(7, .int (nI (k + 1))), (8, .int (nI i66)), (0, .ref (h 0)), (2, .int (nI js38)), (3, .int (nI ji38)), (4, .int (chV (u.2 1) (u.2 2) (u.2 3) (nI a1))), (5, .int (nI (cnt (sdb (u.2 6) (u.2 7) (chV (u.2 1) (u.2 2) (u.2 3) (nI a1))) nl)))]) hx hb dX5_film_118 hl (k := 6) rfl (nI_1 k) (by decide) rfl (fun ls hl => ?_)
                refine lv_goto (tgt := 54) hx hb dX5_film_121 (by decide) ?_
                exact ih54 (k + 1) g111 (vp_updL ss (((40 * js38) + ji38) + k) (((((u.2 5) i66).toInt64) + (256 * (((u.2 6) i66).toInt64))) + (65536 * r111.toInt64))) (by first | assumption | omega) (by omega) _ _ ls hP hD hS (lv_sub hl [2, 3, 4, 5, 6, 0] rfl)
              · skip
                exact absurd hq66 n58
        exact LP54 (cnt (sdb (u.2 6) (u.2 7) (chV (u.2 1) (u.2 2) (u.2 3) (nI a1))) nl - 0 + 1) 0 g20 sj (by first | assumption | omega) (Nat.lt_succ_self _) _ _ ls hP hD hS (lv_sub hl [4, 6, 7, 3, 2, 0] rfl)
      · skip
        refine lv_istore (lv' := [(6, .int (-1000000001 : Int32)), (5, .int (nI (cnt (sdb (u.2 6) (u.2 7) (chV (u.2 1) (u.2 2) (u.2 3) (nI a1))) nl))), (4, .int (chV (u.2 1) (u.2 2) (u.2 3) (nI a1))), (0, .ref (h 0)), (1, .int (nI a1)), (2, .int s1), (3, .int i1)]) hx hb dX5_film_41 hl (by decide) rfl (fun ls hl => ?_)
        refine lv_iload hx hb dX5_film_43 (lv_at hl 0 rfl) ?_
        refine lv_if_eq (tgt := 51) hx hb dX5_film_45 (by decide) (fun c9 => absurd c9 (by decide)) (fun _ => ?_)
        refine lv_iload hx hb dX5_film_48 (lv_at hl 0 rfl) ?_
        exact W.iret (v := (-1000000001 : Int32)) hx hb hr (fun t ht hW => ⟨⟨(-1000000001 : Int32), (oA u 26 g20, lt, sj), rfl, ⟨⟨nv, nl, nt, nh, hI0⟩, ⟨rfl, rfl, rfl⟩, rfl, rfl⟩, show PP G (mw G h (oA u 26 g20) lt sj) t.heap by rw [ht]; exact hP⟩, hS.F ht⟩) hS.2.2 dX5_film_50
      · skip
        refine lv_istore (lv' := [(6, .int (-1000000011 : Int32)), (5, .int (nI (cnt (sdb (u.2 6) (u.2 7) (chV (u.2 1) (u.2 2) (u.2 3) (nI a1))) nl))), (4, .int (chV (u.2 1) (u.2 2) (u.2 3) (nI a1))), (0, .ref (h 0)), (1, .int (nI a1)), (2, .int s1), (3, .int i1)]) hx hb dX5_film_41 hl (by decide) rfl (fun ls hl => ?_)
        refine lv_iload hx hb dX5_film_43 (lv_at hl 0 rfl) ?_
        refine lv_if_eq (tgt := 51) hx hb dX5_film_45 (by decide) (fun c9 => absurd c9 (by decide)) (fun _ => ?_)
        refine lv_iload hx hb dX5_film_48 (lv_at hl 0 rfl) ?_
        exact W.iret (v := (-1000000011 : Int32)) hx hb hr (fun t ht hW => ⟨⟨(-1000000011 : Int32), (oA u 26 g20, lt, sj), rfl, ⟨⟨nv, nl, nt, nh, hI0⟩, ⟨rfl, rfl, rfl⟩, rfl, rfl⟩, show PP G (mw G h (oA u 26 g20) lt sj) t.heap by rw [ht]; exact hP⟩, hS.F ht⟩) hS.2.2 dX5_film_50
      · skip
        refine lv_istore (lv' := [(6, .int (-1000000012 : Int32)), (5, .int (nI (cnt (sdb (u.2 6) (u.2 7) (chV (u.2 1) (u.2 2) (u.2 3) (nI a1))) nl))), (4, .int (chV (u.2 1) (u.2 2) (u.2 3) (nI a1))), (0, .ref (h 0)), (1, .int (nI a1)), (2, .int s1), (3, .int i1)]) hx hb dX5_film_41 hl (by decide) rfl (fun ls hl => ?_)
        refine lv_iload hx hb dX5_film_43 (lv_at hl 0 rfl) ?_
        refine lv_if_eq (tgt := 51) hx hb dX5_film_45 (by decide) (fun c9 => absurd c9 (by decide)) (fun _ => ?_)
        refine lv_iload hx hb dX5_film_48 (lv_at hl 0 rfl) ?_
        exact W.iret (v := (-1000000012 : Int32)) hx hb hr (fun t ht hW => ⟨⟨(-1000000012 : Int32), (oA u 26 g20, lt, sj), rfl, ⟨⟨nv, nl, nt, nh, hI0⟩, ⟨rfl, rfl, rfl⟩, rfl, rfl⟩, show PP G (mw G h (oA u 26 g20) lt sj) t.heap by rw [ht]; exact hP⟩, hS.F ht⟩) hS.2.2 dX5_film_50
    · skip
      refine lv_if_ne (tgt := 18) hx hb dX5_film_12 (by decide) (fun c9 => absurd (by decide) c9) (fun _ => ?_)
      refine lv_ldc (v := (-1000000001 : Int32)) hx hb hown (hts (.constant RX5 216 (-1000000001)) (List.mem_of_getElem? (i := 1) rfl)) dX5_film_15 ?_
      exact W.iret (v := (-1000000001 : Int32)) hx hb hr (fun t ht hW => ⟨⟨(-1000000001 : Int32), (u, lt, sj), rfl, ⟨⟨nv, nl, nt, nh, hI0⟩, ⟨rfl, rfl, rfl⟩, rfl, rfl⟩, show PP G (mw G h u lt sj) t.heap by rw [ht]; exact hP⟩, hS.F ht⟩) hS.2.2 dX5_film_17
  · skip
    refine lv_if_eq (tgt := 15) hx hb dX5_film_5 (by decide) (fun _ => ?_) (fun c9 => absurd (by decide) c9)
    refine lv_ldc (v := (-1000000001 : Int32)) hx hb hown (hts (.constant RX5 216 (-1000000001)) (List.mem_of_getElem? (i := 1) rfl)) dX5_film_15 ?_
    exact W.iret (v := (-1000000001 : Int32)) hx hb hr (fun t ht hW => ⟨⟨(-1000000001 : Int32), (u, lt, sj), rfl, ⟨⟨nv, nl, nt, nh, hI0⟩, ⟨rfl, rfl, rfl⟩, rfl, rfl⟩, show PP G (mw G h u lt sj) t.heap by rw [ht]; exact hP⟩, hS.F ht⟩) hS.2.2 dX5_film_17
set_option maxHeartbeats 1000000 in
set_option maxRecDepth 100000 in
theorem mt_X5_isFilm (l : Launch) (G : gG) (h : Nat → Nat) (sz : Nat) (u : oS) (lt : Int64) (sj : Nat → Int64) (a : Int32) (s1 : Int32) (i1 : Int32) (n1 : Int32) (nv nl nt nh : Nat) (hI : MIx u nv nl nt nh) : Met l yX5_isFilm wsX5_isFilm ({ frames := 3, cells := 0, slots := 0, locals := 68 }) (preW G (mw G h u lt sj) sz [.ref (h 0), .int a, .int s1, .int i1, .int n1]) (va_Qi (fun (r : Int32) (v : oS × Int64 × (Nat → Int64)) => MIk u v.1) (fun v t => PP G (mw G h v.1 v.2.1 v.2.2) t.heap) (va_A (mw G h u lt sj) sz)) 0 0 (va_A (mw G h u lt sj) sz) := by
  refine Met.ofW (cc := cX5_isFilm) (maxL := 9) (ret := (some .int)) (by decide) rfl ?_
  intro p e s m args below meth c s₁ B hml hv
  obtain ⟨ha, hsz, hP, hK, hN, hD0⟩ := hv
  subst ha
  have hx := B.exec
  have hb := B.bytes
  have hr := B.returns
  have hts := atoms_spec (ws := wsX5_isFilm) B.pre
  have hown : s.vm.findClass RX5 = some m.cls := findClass_of_methodNamed B.named
  have hlocks := B.notSynchronized
  subst hsz
  have hD := hD0.self (sz := s.heap.size)
  generalize hAe : va_A (mw G h u lt sj) s.heap.size = A at hD ⊢
  have hA : ∀ q : Nat, s.heap.size ≤ q → A q := fun q h => by rw [← hAe]; exact Or.inr h
  clear hAe hD0
  have hS : va_S A s.heap s.heap [] := va_S.rf
  have hiX5 : ∀ w ∈ wsX50, w ∈ wsX5_isFilm := by decide +kernel
  have k78 := hts (.fieldLink RX5 78 "WovenHistoryModel" "sheets" "[J") (List.mem_of_getElem? (i := 3) rfl)
  have k19 := hts (.fieldLink RX5 19 "WovenHistoryModel" "letter" "[I") (List.mem_of_getElem? (i := 5) rfl)
  have hl := lv_entry ([.ref (h 0), .int a, .int s1, .int i1, .int n1]) (n := 9) (Nat.le_of_ble_eq_true rfl)
  rw [lg_entry_eq]
  generalize (lg_sl ([.ref (h 0), .int a, .int s1, .int i1, .int n1]) ++ List.replicate (9 - (lg_sl ([.ref (h 0), .int a, .int s1, .int i1, .int n1])).length) Slot.unset).toArray = ls at hl ⊢
  have hl : lv_has ls 9 [(0, .ref (h 0)), (1, .int a), (2, .int s1), (3, .int i1), (4, .int n1)] := hl
  have hI0 := hI
  obtain ⟨hnv, hnl, hnt, hnh, hnv24, hnl120, hnt240, hnh120, hop, hopn, hparV, hsz4, himg⟩ := hI
  refine lv_aload_n hx hb dX5_isFilm_0 rfl (lv_at hl 0 rfl) ?_
  refine lv_iload_n hx hb dX5_isFilm_1 rfl (lv_at hl 1 rfl) ?_
  refine cRi (w := mw G h u lt sj) (As := [.int a]) (rest := []) ⟨hx, hb, hml, hown, hts⟩ (mt_X5_isVersion l G h u lt sj nv a (hnv) (by first | assumption | omega)) (cwV 1 hts gX5_isFilm_X5_isVersion rfl rfl rfl (by decide +kernel) ⟨Nat.le_of_ble_eq_true rfl, Nat.le_of_ble_eq_true rfl⟩) hK hN hP 0 5 rfl rfl rfl hl.1 rfl (Nat.le_of_ble_eq_true rfl) ⟨Nat.zero_le _, Nat.zero_le _⟩ dX5_isFilm_2 (fun r2 hw2 => ?_)
  rcases hw2 with ⟨rfl, a1, ha1, rfl⟩ | ⟨rfl, hna1⟩
  · skip
    refine lv_if_eq (tgt := 15) hx hb dX5_isFilm_5 (by decide) (fun c9 => absurd c9 (by decide)) (fun _ => ?_)
    refine lv_iload_n hx hb dX5_isFilm_8 rfl (lv_at hl 2 rfl) ?_
    refine cSi (As := [.int s1]) (rest := []) ⟨hx, hb, hml, hown, hts⟩ (mt_X5_isSheet l s1) (va_cwS 1 hts gX5_isFilm_X5_isSheet rfl rfl rfl (by decide +kernel) ⟨Nat.le_of_ble_eq_true rfl, Nat.le_of_ble_eq_true rfl⟩) rfl hl.1 rfl (Nat.le_of_ble_eq_true rfl) ⟨Nat.zero_le _, Nat.zero_le _⟩ dX5_isFilm_9 (fun r9 hw9 => ?_)
    rcases hw9 with ⟨rfl, j9, hj9, ej9⟩ | ⟨rfl, hn9⟩
    · skip
      refine lv_if_ne (tgt := 18) hx hb dX5_isFilm_12 (by decide) (fun _ => ?_) (fun c9 => absurd c9 (by decide))
      refine lv_iload hx hb dX5_isFilm_18 (lv_at hl 4 rfl) ?_
      refine lv_if_ge (tgt := 26) hx hb dX5_isFilm_20 (by decide) (fun c20 => ?_) (fun c20 => ?_)
      · skip
        obtain ⟨n2, hn2, rfl⟩ := nI_of (fun q => absurd c20 (Int32.not_le.mpr q))
        refine lv_aload_n hx hb dX5_isFilm_26 rfl (lv_at hl 0 rfl) ?_
        refine lv_iload_n hx hb dX5_isFilm_27 rfl (lv_at hl 2 rfl) ?_
        refine lv_iload_n hx hb dX5_isFilm_28 rfl (lv_at hl 3 rfl) ?_
        refine lv_iload hx hb dX5_isFilm_29 (lv_at hl 4 rfl) ?_
        refine cRi (w := mw G h u lt sj) (As := [.int s1, .int i1, .int (nI n2)]) (rest := []) ⟨hx, hb, hml, hown, hts⟩ (mt_X5_refused l G h u lt sj s1 i1 n2 (by first | assumption | omega) (by omega)) (cwV 3 hts gX5_isFilm_X5_refused rfl rfl rfl (by decide +kernel) ⟨Nat.le_of_ble_eq_true rfl, Nat.le_of_ble_eq_true rfl⟩) hK hN hP 0 5 rfl rfl rfl hl.1 rfl (Nat.le_of_ble_eq_true rfl) ⟨Nat.zero_le _, Nat.zero_le _⟩ dX5_isFilm_31 (fun r31 hw31 => ?_)
        rcases hw31 with ⟨rfl, js31, ji31, z31, hjs31, rfl, hth31, hz31, ez31, rfl, hji31⟩ | ⟨rfl, hnu31⟩ | ⟨rfl, js31, hjs31, ejs31, hth31⟩ | ⟨rfl, js31, z31, hjs31, ejs31, hth31, hz31, ez31, hpl31⟩
        · skip
          refine lv_istore (lv' := [(5, .int (0 : Int32)), (0, .ref (h 0)), (1, .int (nI a1)), (2, .int (nI js31)), (3, .int (nI ji31)), (4, .int (nI n2))]) hx hb dX5_isFilm_34 hl (by decide) rfl (fun ls hl => ?_)
          refine lv_iload hx hb dX5_isFilm_36 (lv_at hl 0 rfl) ?_
          refine lv_if_eq (tgt := 44) hx hb dX5_isFilm_38 (by decide) (fun _ => ?_) (fun c9 => absurd (by decide) c9)
          refine lv_aload_n hx hb dX5_isFilm_44 rfl (lv_at hl 1 rfl) ?_
          refine lv_iload_n hx hb dX5_isFilm_45 rfl (lv_at hl 2 rfl) ?_
          have hP := mw_self26 hP
          have hD : va_D A (mw G h (oA u 26 (u.2 26)) lt sj) := mw_self26D hD
          refine cXi (As := [.int (nI a1)]) (rest := []) (S := oS × Int64 × (Nat → Int64)) (wa := mw G h (oA u 26 (u.2 26)) lt sj) (w1 := fun v => mw G h v.1 v.2.1 v.2.2) ⟨hx, hb, hml, hown, hts⟩ (mt_X5_changesOf l G h _ u lt sj (u.2 26) a1 (by first | assumption | omega) (hparV.le (by omega))) (cwV 1 hts gX5_isFilm_X5_changesOf rfl rfl rfl (by decide +kernel) ⟨Nat.le_of_ble_eq_true rfl, Nat.le_of_ble_eq_true rfl⟩) hK hN hP hD hS hA (fun _ => rfl) 0 5 rfl rfl rfl hl.1 rfl (Nat.le_of_ble_eq_true rfl) ⟨Nat.zero_le _, Nat.zero_le _⟩ dX5_isFilm_46 (fun r46 u46 H locs hw46 hP hD hS => ?_)
          obtain ⟨g46, rfl, rfl⟩ := hw46
          have hP : PP G (mw G h (oA u 26 g46) lt sj) H := hP
          have hD : va_D A (mw G h (oA u 26 g46) lt sj) := hD
          refine lv_istore (lv' := [(6, .int (chV (u.2 1) (u.2 2) (u.2 3) (nI a1))), (5, .int (0 : Int32)), (0, .ref (h 0)), (1, .int (nI a1)), (2, .int (nI js31)), (3, .int (nI ji31)), (4, .int (nI n2))]) hx hb dX5_isFilm_49 hl (by decide) rfl (fun ls hl => ?_)
          refine lv_aload_n hx hb dX5_isFilm_51 rfl (lv_at hl 2 rfl) ?_
          refine lv_iload hx hb dX5_isFilm_52 (lv_at hl 0 rfl) ?_
          refine cRi (w := mw G h (oA u 26 g46) lt sj) (As := [.int (chV (u.2 1) (u.2 2) (u.2 3) (nI a1))]) (rest := []) ⟨hx, hb, hml, hown, hts⟩ (mt_X5_manyOf l G h (oA u 26 g46) lt sj nl (chV (u.2 1) (u.2 2) (u.2 3) (nI a1)) (hnl) (by first | assumption | omega)) (cwV 1 hts gX5_isFilm_X5_manyOf rfl rfl rfl (by decide +kernel) ⟨Nat.le_of_ble_eq_true rfl, Nat.le_of_ble_eq_true rfl⟩) hK hN hP 0 5 rfl rfl rfl hl.1 rfl (Nat.le_of_ble_eq_true rfl) ⟨Nat.zero_le _, Nat.zero_le _⟩ dX5_isFilm_54 (fun r54 hw54 => ?_)
          obtain rfl := hw54
          have hc54 := cnt_le (sdb (u.2 6) (u.2 7) (chV (u.2 1) (u.2 2) (u.2 3) (nI a1))) nl
          refine lv_iload hx hb dX5_isFilm_57 (lv_at hl 6 rfl) ?_
          refine lv_icmp_ne (tgt := 66) hx hb dX5_isFilm_59 (by decide) (fun c59 => ?_) (fun c59 => ?_)
          · skip
            have n59 : ¬ ((cnt (sdb (u.2 6) (u.2 7) (chV (u.2 1) (u.2 2) (u.2 3) (nI a1))) nl) = n2) := fun q9 => c59 ((nI_eq (a := cnt (sdb (u.2 6) (u.2 7) (chV (u.2 1) (u.2 2) (u.2 3) (nI a1))) nl) (b := n2) (by omega) (by omega)).mpr q9)
            refine lv_iconst (v := nI 0) hx hb dX5_isFilm_66 (by decide) ?_
            refine lv_istore (lv' := [(7, .int (nI 0)), (6, .int (chV (u.2 1) (u.2 2) (u.2 3) (nI a1))), (5, .int (0 : Int32)), (0, .ref (h 0)), (1, .int (nI a1)), (2, .int (nI js31)), (3, .int (nI ji31)), (4, .int (nI n2))]) hx hb dX5_isFilm_67 hl (by decide) rfl (fun ls hl => ?_)
            refine lv_iconst (v := nI 0) hx hb dX5_isFilm_69 (by decide) ?_
            refine lv_istore (lv' := [(8, .int (nI 0)), (7, .int (nI 0)), (6, .int (chV (u.2 1) (u.2 2) (u.2 3) (nI a1))), (5, .int (0 : Int32)), (0, .ref (h 0)), (1, .int (nI a1)), (2, .int (nI js31)), (3, .int (nI ji31)), (4, .int (nI n2))]) hx hb dX5_isFilm_70 hl (by decide) rfl (fun ls hl => ?_)
            have LP72 : ∀ (n72m : Nat), ∀ (k : Nat) (x : Int32) (hk : k ≤ n2) (hcn : ¬ x = 0 → cnt (sdb (u.2 6) (u.2 7) (chV (u.2 1) (u.2 2) (u.2 3) (nI a1))) nl = n2), (n2 - k < n72m) → ∀ (H : Heap) (locs : List Loc) (ls : Array Slot), PP G (mw G h (oA u 26 g46) lt sj) H → va_D A (mw G h (oA u 26 g46) lt sj) → va_S A s.heap H locs → lv_has ls 9 [(0, .ref (h 0)), (2, .int (nI js31)), (3, .int (nI ji31)), (4, .int (nI n2)), (6, .int (chV (u.2 1) (u.2 2) (u.2 3) (nI a1))), (7, .int x), (8, .int (nI k))] → W p l e (headSpec wsX5_isFilm ({ frames := 3, cells := 0, slots := 0, locals := 68 })).room s m ([.ref (h 0), .int (nI a1), .int (nI js31), .int (nI ji31), .int (nI n2)] : List Value).toArray below meth c H locs 0 0 (MQ below (va_Qi (fun (r : Int32) (v : oS × Int64 × (Nat → Int64)) => MIk u v.1) (fun v t => PP G (mw G h v.1 v.2.1 v.2.2) t.heap) A) ([.ref (h 0), .int (nI a1), .int (nI js31), .int (nI ji31), .int (nI n2)] : List Value).toArray s 0 0 A) (F0 m 72 ls []) := by
              intro n72m
              induction n72m with
              | zero => intro k x hk hcn hmu H locs ls hP hD hS hl; exact absurd hmu (Nat.not_lt_zero _)
              | succ n72m ih72 =>
                intro k x hk hcn hmu H locs ls hP hD hS hl
                refine lv_iload hx hb dX5_isFilm_72 (lv_at hl 6 rfl) ?_
                refine lv_iload hx hb dX5_isFilm_74 (lv_at hl 3 rfl) ?_
                refine lv_icmp_ge (tgt := 133) hx hb dX5_isFilm_76 (by decide) (fun c76 => ?_) (fun c76 => ?_)
                · skip
                  have n76 : n2 ≤ k := (nI_leI (a := n2) (b := k) (by omega) (by omega)).mp c76
                  refine lv_iload hx hb dX5_isFilm_133 (lv_at hl 5 rfl) ?_
                  refine lv_if_eq (tgt := 142) hx hb dX5_isFilm_135 (by decide) (fun c135 => ?_) (fun c135 => ?_)
                  · skip
                    refine lv_iconst (v := nI 0) hx hb dX5_isFilm_142 (by decide) ?_
                    exact W.iret (v := nI 0) hx hb hr (fun t ht hW => ⟨⟨nI 0, (oA u 26 g46, lt, sj), rfl, ⟨⟨nv, nl, nt, nh, hI0⟩, ⟨rfl, rfl, rfl⟩, rfl, rfl⟩, show PP G (mw G h (oA u 26 g46) lt sj) t.heap by rw [ht]; exact hP⟩, hS.F ht⟩) hS.2.2 dX5_isFilm_143
                  · skip
                    refine lv_iconst (v := nI 1) hx hb dX5_isFilm_138 (by decide) ?_
                    refine lv_goto (tgt := 143) hx hb dX5_isFilm_139 (by decide) ?_
                    exact W.iret (v := nI 1) hx hb hr (fun t ht hW => ⟨⟨nI 1, (oA u 26 g46, lt, sj), rfl, ⟨⟨nv, nl, nt, nh, hI0⟩, ⟨rfl, rfl, rfl⟩, rfl, rfl⟩, show PP G (mw G h (oA u 26 g46) lt sj) t.heap by rw [ht]; exact hP⟩, hS.F ht⟩) hS.2.2 dX5_isFilm_143
                · skip
                  have n76 : ¬ (n2 ≤ k) := fun q9 => c76 ((nI_leI (a := n2) (b := k) (by omega) (by omega)).mpr q9)
                  refine lv_iload hx hb dX5_isFilm_79 (lv_at hl 5 rfl) ?_
                  refine lv_if_eq (tgt := 133) hx hb dX5_isFilm_81 (by decide) (fun c81 => ?_) (fun c81 => ?_)
                  · skip
                    refine lv_iload hx hb dX5_isFilm_133 (lv_at hl 5 rfl) ?_
                    refine lv_if_eq (tgt := 142) hx hb dX5_isFilm_135 (by decide) (fun c135 => ?_) (fun c135 => ?_)
                    · skip
                      refine lv_iconst (v := nI 0) hx hb dX5_isFilm_142 (by decide) ?_
                      exact W.iret (v := nI 0) hx hb hr (fun t ht hW => ⟨⟨nI 0, (oA u 26 g46, lt, sj), rfl, ⟨⟨nv, nl, nt, nh, hI0⟩, ⟨rfl, rfl, rfl⟩, rfl, rfl⟩, show PP G (mw G h (oA u 26 g46) lt sj) t.heap by rw [ht]; exact hP⟩, hS.F ht⟩) hS.2.2 dX5_isFilm_143
                    · skip
                      refine lv_iconst (v := nI 1) hx hb dX5_isFilm_138 (by decide) ?_
                      refine lv_goto (tgt := 143) hx hb dX5_isFilm_139 (by decide) ?_
                      exact W.iret (v := nI 1) hx hb hr (fun t ht hW => ⟨⟨nI 1, (oA u 26 g46, lt, sj), rfl, ⟨⟨nv, nl, nt, nh, hI0⟩, ⟨rfl, rfl, rfl⟩, rfl, rfl⟩, show PP G (mw G h (oA u 26 g46) lt sj) t.heap by rw [ht]; exact hP⟩, hS.F ht⟩) hS.2.2 dX5_isFilm_143
                  · skip
                    have hcn81 := hcn c81
                    refine lv_aload_n hx hb dX5_isFilm_84 rfl (lv_at hl 0 rfl) ?_
                    refine va_get (D := gD G) (ci := 5) (v := .ref (h 34)) (C := RX5) (T := TX5) (N := 38) hx hb hts hiX5 hown hK hP 0 rfl rfl 34 (by decide) k78 (fun _ h9 => h9) rfl dX5_isFilm_85 ?_
                    refine lv_bipush (v := nI 40) hx hb dX5_isFilm_88 (by decide) ?_
                    refine lv_iload_n hx hb dX5_isFilm_90 rfl (lv_at hl 1 rfl) ?_
                    refine lv_imul hx hb dX5_isFilm_91 ?_
                    refine topE (y := nI (40 * js31)) (pk_mul 40 js31) ?_
                    refine lv_iload_n hx hb dX5_isFilm_92 rfl (lv_at hl 2 rfl) ?_
                    refine lv_iadd hx hb dX5_isFilm_93 ?_
                    refine topE (y := nI ((40 * js31) + ji31)) (nI_add (40 * js31) ji31) ?_
                    refine lv_iload hx hb dX5_isFilm_94 (lv_at hl 6 rfl) ?_
                    refine lv_iadd hx hb dX5_isFilm_96 ?_
                    refine topE (y := nI (((40 * js31) + ji31) + k)) (nI_add ((40 * js31) + ji31) k) ?_
                    refine laldN (f := sj) (n := 160) (k := ((40 * js31) + ji31) + k) hx hb hK hP 22 rfl rfl (by omega) dX5_isFilm_97 ?_
                    refine lv_ldc2 (v := 255) hx hb hown (hts (.constantLong RX5 98 (255)) (List.mem_of_getElem? (i := 4) rfl)) dX5_isFilm_98 ?_
                    refine lv_land hx hb dX5_isFilm_101 ?_
                    refine lv_aload_n hx hb dX5_isFilm_102 rfl (lv_at hl 0 rfl) ?_
                    refine va_get (D := gD G) (ci := 5) (v := .ref (h 5)) (C := RX5) (T := TX5) (N := 38) hx hb hts hiX5 hown hK hP 0 rfl rfl 5 (by decide) k19 (fun _ h9 => h9) rfl dX5_isFilm_103 ?_
                    refine lv_aload_n hx hb dX5_isFilm_106 rfl (lv_at hl 0 rfl) ?_
                    refine lv_iload hx hb dX5_isFilm_107 (lv_at hl 4 rfl) ?_
                    refine lv_iload hx hb dX5_isFilm_109 (lv_at hl 6 rfl) ?_
                    refine cRi (w := mw G h (oA u 26 g46) lt sj) (As := [.int (chV (u.2 1) (u.2 2) (u.2 3) (nI a1)), .int (nI k)]) (rest := [.ref (h 5), .long ((sj (((40 * js31) + ji31) + k)) &&& 255)]) ⟨hx, hb, hml, hown, hts⟩ (mt_X5_lineAt l G h (oA u 26 g46) lt sj nl (chV (u.2 1) (u.2 2) (u.2 3) (nI a1)) k (hnl) (by first | assumption | omega) (by omega)) (cwV 2 hts gX5_isFilm_X5_lineAt rfl rfl rfl (by decide +kernel) ⟨Nat.le_of_ble_eq_true rfl, Nat.le_of_ble_eq_true rfl⟩) hK hN hP 0 5 rfl rfl rfl hl.1 rfl (Nat.le_of_ble_eq_true rfl) ⟨Nat.zero_le _, Nat.zero_le _⟩ dX5_isFilm_111 (fun r111 hw111 => ?_)
                    rcases hw111 with ⟨i111, hi111, hp111, hq111, rfl⟩ | ⟨hq111, rfl⟩
                    · skip
                      refine ialdN (f := u.2 5) (n := 120) (k := i111) hx hb hK hP 4 rfl rfl (by omega) dX5_isFilm_114 ?_
                      refine lv_i2l (v := ((u.2 5) i111).toInt64) hx hb dX5_isFilm_115 rfl ?_
                      refine W.lcmp hx hb dX5_isFilm_116 ?_
                      refine lv_if_ne (tgt := 124) hx hb dX5_isFilm_117 (by decide) (fun c117 => ?_) (fun c117 => ?_)
                      · skip
                        have n117 : ¬ (((sj (((40 * js31) + ji31) + k)) &&& 255) = (((u.2 5) i111).toInt64)) := fun q9 => c117 ((lg_cmp_eq _ _).mpr q9)
                        refine lv_iconst (v := nI 0) hx hb dX5_isFilm_124 (by decide) ?_
                        refine lv_istore (lv' := [(7, .int (nI 0)), (0, .ref (h 0)), (2, .int (nI js31)), (3, .int (nI ji31)), (4, .int (nI n2)), (6, .int (chV (u.2 1) (u.2 2) (u.2 3) (nI a1))), (8, .int (nI k))]) hx hb dX5_isFilm_125 hl (by decide) rfl (fun ls hl => ?_)
                        refine lv_iinc (v := nI (k + 1)) (lv' := [(8, .int (nI (k + 1))), (7, .int (nI 0)), (0, .ref (h 0)), (2, .int (nI js31)), (3, .int (nI ji31)), (4, .int (nI n2)), (6, .int (chV (u.2 1) (u.2 2) (u.2 3) (nI a1)))]) hx hb dX5_isFilm_127 hl (k := 6) rfl (nI_1 k) (by decide) rfl (fun ls hl => ?_)
                        refine lv_goto (tgt := 72) hx hb dX5_isFilm_130 (by decide) ?_
                        exact ih72 (k + 1) (nI 0) (by first | assumption | omega) (fun _ => hcn81) (by omega) _ _ ls hP hD hS (lv_sub hl [2, 3, 4, 5, 6, 1, 0] rfl)
                      · skip
                        have n117 : ((sj (((40 * js31) + ji31) + k)) &&& 255) = (((u.2 5) i111).toInt64) := (lg_cmp_eq _ _).mp c117
                        refine lv_iconst (v := nI 1) hx hb dX5_isFilm_120 (by decide) ?_
                        refine lv_goto (tgt := 125) hx hb dX5_isFilm_121 (by decide) ?_
                        refine lv_istore (lv' := [(7, .int (nI 1)), (0, .ref (h 0)), (2, .int (nI js31)), (3, .int (nI ji31)), (4, .int (nI n2)), (6, .int (chV (u.2 1) (u.2 2) (u.2 3) (nI a1))), (8, .int (nI k))]) hx hb dX5_isFilm_125 hl (by decide) rfl (fun ls hl => ?_)
                        refine lv_iinc (v := nI (k + 1)) (lv' := [(8, .int (nI (k + 1))), (7, .int (nI 1)), (0, .ref (h 0)), (2, .int (nI js31)), (3, .int (nI ji31)), (4, .int (nI n2)), (6, .int (chV (u.2 1) (u.2 2) (u.2 3) (nI a1)))]) hx hb dX5_isFilm_127 hl (k := 6) rfl (nI_1 k) (by decide) rfl (fun ls hl => ?_)
                        refine lv_goto (tgt := 72) hx hb dX5_isFilm_130 (by decide) ?_
                        exact ih72 (k + 1) (nI 1) (by first | assumption | omega) (fun _ => hcn81) (by omega) _ _ ls hP hD hS (lv_sub hl [2, 3, 4, 5, 6, 1, 0] rfl)
                    · skip
                      exact absurd (show cnt (sdb (u.2 6) (u.2 7) (chV (u.2 1) (u.2 2) (u.2 3) (nI a1))) nl ≤ k from hq111) (by rw [hcn c81]; exact n76)
            exact LP72 (n2 - 0 + 1) 0 (nI 0) (by first | assumption | omega) (by first | (intro q; exact absurd rfl q) | (intro _; assumption)) (Nat.lt_succ_self _) _ _ ls hP hD hS (lv_sub hl [4, 6, 7, 8, 2, 1, 0] rfl)
          · skip
            have n59 : (cnt (sdb (u.2 6) (u.2 7) (chV (u.2 1) (u.2 2) (u.2 3) (nI a1))) nl) = n2 := (nI_eq (a := cnt (sdb (u.2 6) (u.2 7) (chV (u.2 1) (u.2 2) (u.2 3) (nI a1))) nl) (b := n2) (by omega) (by omega)).mp c59
            refine lv_iconst (v := nI 1) hx hb dX5_isFilm_62 (by decide) ?_
            refine lv_goto (tgt := 67) hx hb dX5_isFilm_63 (by decide) ?_
            refine lv_istore (lv' := [(7, .int (nI 1)), (6, .int (chV (u.2 1) (u.2 2) (u.2 3) (nI a1))), (5, .int (0 : Int32)), (0, .ref (h 0)), (1, .int (nI a1)), (2, .int (nI js31)), (3, .int (nI ji31)), (4, .int (nI n2))]) hx hb dX5_isFilm_67 hl (by decide) rfl (fun ls hl => ?_)
            refine lv_iconst (v := nI 0) hx hb dX5_isFilm_69 (by decide) ?_
            refine lv_istore (lv' := [(8, .int (nI 0)), (7, .int (nI 1)), (6, .int (chV (u.2 1) (u.2 2) (u.2 3) (nI a1))), (5, .int (0 : Int32)), (0, .ref (h 0)), (1, .int (nI a1)), (2, .int (nI js31)), (3, .int (nI ji31)), (4, .int (nI n2))]) hx hb dX5_isFilm_70 hl (by decide) rfl (fun ls hl => ?_)
            have LP72 : ∀ (n72m : Nat), ∀ (k : Nat) (x : Int32) (hk : k ≤ n2) (hcn : ¬ x = 0 → cnt (sdb (u.2 6) (u.2 7) (chV (u.2 1) (u.2 2) (u.2 3) (nI a1))) nl = n2), (n2 - k < n72m) → ∀ (H : Heap) (locs : List Loc) (ls : Array Slot), PP G (mw G h (oA u 26 g46) lt sj) H → va_D A (mw G h (oA u 26 g46) lt sj) → va_S A s.heap H locs → lv_has ls 9 [(0, .ref (h 0)), (2, .int (nI js31)), (3, .int (nI ji31)), (4, .int (nI n2)), (6, .int (chV (u.2 1) (u.2 2) (u.2 3) (nI a1))), (7, .int x), (8, .int (nI k))] → W p l e (headSpec wsX5_isFilm ({ frames := 3, cells := 0, slots := 0, locals := 68 })).room s m ([.ref (h 0), .int (nI a1), .int (nI js31), .int (nI ji31), .int (nI n2)] : List Value).toArray below meth c H locs 0 0 (MQ below (va_Qi (fun (r : Int32) (v : oS × Int64 × (Nat → Int64)) => MIk u v.1) (fun v t => PP G (mw G h v.1 v.2.1 v.2.2) t.heap) A) ([.ref (h 0), .int (nI a1), .int (nI js31), .int (nI ji31), .int (nI n2)] : List Value).toArray s 0 0 A) (F0 m 72 ls []) := by
              intro n72m
              induction n72m with
              | zero => intro k x hk hcn hmu H locs ls hP hD hS hl; exact absurd hmu (Nat.not_lt_zero _)
              | succ n72m ih72 =>
                intro k x hk hcn hmu H locs ls hP hD hS hl
                refine lv_iload hx hb dX5_isFilm_72 (lv_at hl 6 rfl) ?_
                refine lv_iload hx hb dX5_isFilm_74 (lv_at hl 3 rfl) ?_
                refine lv_icmp_ge (tgt := 133) hx hb dX5_isFilm_76 (by decide) (fun c76 => ?_) (fun c76 => ?_)
                · skip
                  have n76 : n2 ≤ k := (nI_leI (a := n2) (b := k) (by omega) (by omega)).mp c76
                  refine lv_iload hx hb dX5_isFilm_133 (lv_at hl 5 rfl) ?_
                  refine lv_if_eq (tgt := 142) hx hb dX5_isFilm_135 (by decide) (fun c135 => ?_) (fun c135 => ?_)
                  · skip
                    refine lv_iconst (v := nI 0) hx hb dX5_isFilm_142 (by decide) ?_
                    exact W.iret (v := nI 0) hx hb hr (fun t ht hW => ⟨⟨nI 0, (oA u 26 g46, lt, sj), rfl, ⟨⟨nv, nl, nt, nh, hI0⟩, ⟨rfl, rfl, rfl⟩, rfl, rfl⟩, show PP G (mw G h (oA u 26 g46) lt sj) t.heap by rw [ht]; exact hP⟩, hS.F ht⟩) hS.2.2 dX5_isFilm_143
                  · skip
                    refine lv_iconst (v := nI 1) hx hb dX5_isFilm_138 (by decide) ?_
                    refine lv_goto (tgt := 143) hx hb dX5_isFilm_139 (by decide) ?_
                    exact W.iret (v := nI 1) hx hb hr (fun t ht hW => ⟨⟨nI 1, (oA u 26 g46, lt, sj), rfl, ⟨⟨nv, nl, nt, nh, hI0⟩, ⟨rfl, rfl, rfl⟩, rfl, rfl⟩, show PP G (mw G h (oA u 26 g46) lt sj) t.heap by rw [ht]; exact hP⟩, hS.F ht⟩) hS.2.2 dX5_isFilm_143
                · skip
                  have n76 : ¬ (n2 ≤ k) := fun q9 => c76 ((nI_leI (a := n2) (b := k) (by omega) (by omega)).mpr q9)
                  refine lv_iload hx hb dX5_isFilm_79 (lv_at hl 5 rfl) ?_
                  refine lv_if_eq (tgt := 133) hx hb dX5_isFilm_81 (by decide) (fun c81 => ?_) (fun c81 => ?_)
                  · skip
                    refine lv_iload hx hb dX5_isFilm_133 (lv_at hl 5 rfl) ?_
                    refine lv_if_eq (tgt := 142) hx hb dX5_isFilm_135 (by decide) (fun c135 => ?_) (fun c135 => ?_)
                    · skip
                      refine lv_iconst (v := nI 0) hx hb dX5_isFilm_142 (by decide) ?_
                      exact W.iret (v := nI 0) hx hb hr (fun t ht hW => ⟨⟨nI 0, (oA u 26 g46, lt, sj), rfl, ⟨⟨nv, nl, nt, nh, hI0⟩, ⟨rfl, rfl, rfl⟩, rfl, rfl⟩, show PP G (mw G h (oA u 26 g46) lt sj) t.heap by rw [ht]; exact hP⟩, hS.F ht⟩) hS.2.2 dX5_isFilm_143
                    · skip
                      refine lv_iconst (v := nI 1) hx hb dX5_isFilm_138 (by decide) ?_
                      refine lv_goto (tgt := 143) hx hb dX5_isFilm_139 (by decide) ?_
                      exact W.iret (v := nI 1) hx hb hr (fun t ht hW => ⟨⟨nI 1, (oA u 26 g46, lt, sj), rfl, ⟨⟨nv, nl, nt, nh, hI0⟩, ⟨rfl, rfl, rfl⟩, rfl, rfl⟩, show PP G (mw G h (oA u 26 g46) lt sj) t.heap by rw [ht]; exact hP⟩, hS.F ht⟩) hS.2.2 dX5_isFilm_143
                  · skip
                    have hcn81 := hcn c81
                    refine lv_aload_n hx hb dX5_isFilm_84 rfl (lv_at hl 0 rfl) ?_
                    refine va_get (D := gD G) (ci := 5) (v := .ref (h 34)) (C := RX5) (T := TX5) (N := 38) hx hb hts hiX5 hown hK hP 0 rfl rfl 34 (by decide) k78 (fun _ h9 => h9) rfl dX5_isFilm_85 ?_
                    refine lv_bipush (v := nI 40) hx hb dX5_isFilm_88 (by decide) ?_
                    refine lv_iload_n hx hb dX5_isFilm_90 rfl (lv_at hl 1 rfl) ?_
                    refine lv_imul hx hb dX5_isFilm_91 ?_
                    refine topE (y := nI (40 * js31)) (pk_mul 40 js31) ?_
                    refine lv_iload_n hx hb dX5_isFilm_92 rfl (lv_at hl 2 rfl) ?_
                    refine lv_iadd hx hb dX5_isFilm_93 ?_
                    refine topE (y := nI ((40 * js31) + ji31)) (nI_add (40 * js31) ji31) ?_
                    refine lv_iload hx hb dX5_isFilm_94 (lv_at hl 6 rfl) ?_
                    refine lv_iadd hx hb dX5_isFilm_96 ?_
                    refine topE (y := nI (((40 * js31) + ji31) + k)) (nI_add ((40 * js31) + ji31) k) ?_
                    refine laldN (f := sj) (n := 160) (k := ((40 * js31) + ji31) + k) hx hb hK hP 22 rfl rfl (by omega) dX5_isFilm_97 ?_
                    refine lv_ldc2 (v := 255) hx hb hown (hts (.constantLong RX5 98 (255)) (List.mem_of_getElem? (i := 4) rfl)) dX5_isFilm_98 ?_
                    refine lv_land hx hb dX5_isFilm_101 ?_
                    refine lv_aload_n hx hb dX5_isFilm_102 rfl (lv_at hl 0 rfl) ?_
                    refine va_get (D := gD G) (ci := 5) (v := .ref (h 5)) (C := RX5) (T := TX5) (N := 38) hx hb hts hiX5 hown hK hP 0 rfl rfl 5 (by decide) k19 (fun _ h9 => h9) rfl dX5_isFilm_103 ?_
                    refine lv_aload_n hx hb dX5_isFilm_106 rfl (lv_at hl 0 rfl) ?_
                    refine lv_iload hx hb dX5_isFilm_107 (lv_at hl 4 rfl) ?_
                    refine lv_iload hx hb dX5_isFilm_109 (lv_at hl 6 rfl) ?_
                    refine cRi (w := mw G h (oA u 26 g46) lt sj) (As := [.int (chV (u.2 1) (u.2 2) (u.2 3) (nI a1)), .int (nI k)]) (rest := [.ref (h 5), .long ((sj (((40 * js31) + ji31) + k)) &&& 255)]) ⟨hx, hb, hml, hown, hts⟩ (mt_X5_lineAt l G h (oA u 26 g46) lt sj nl (chV (u.2 1) (u.2 2) (u.2 3) (nI a1)) k (hnl) (by first | assumption | omega) (by omega)) (cwV 2 hts gX5_isFilm_X5_lineAt rfl rfl rfl (by decide +kernel) ⟨Nat.le_of_ble_eq_true rfl, Nat.le_of_ble_eq_true rfl⟩) hK hN hP 0 5 rfl rfl rfl hl.1 rfl (Nat.le_of_ble_eq_true rfl) ⟨Nat.zero_le _, Nat.zero_le _⟩ dX5_isFilm_111 (fun r111 hw111 => ?_)
                    rcases hw111 with ⟨i111, hi111, hp111, hq111, rfl⟩ | ⟨hq111, rfl⟩
                    · skip
                      refine ialdN (f := u.2 5) (n := 120) (k := i111) hx hb hK hP 4 rfl rfl (by omega) dX5_isFilm_114 ?_
                      refine lv_i2l (v := ((u.2 5) i111).toInt64) hx hb dX5_isFilm_115 rfl ?_
                      refine W.lcmp hx hb dX5_isFilm_116 ?_
                      refine lv_if_ne (tgt := 124) hx hb dX5_isFilm_117 (by decide) (fun c117 => ?_) (fun c117 => ?_)
                      · skip
                        have n117 : ¬ (((sj (((40 * js31) + ji31) + k)) &&& 255) = (((u.2 5) i111).toInt64)) := fun q9 => c117 ((lg_cmp_eq _ _).mpr q9)
                        refine lv_iconst (v := nI 0) hx hb dX5_isFilm_124 (by decide) ?_
                        refine lv_istore (lv' := [(7, .int (nI 0)), (0, .ref (h 0)), (2, .int (nI js31)), (3, .int (nI ji31)), (4, .int (nI n2)), (6, .int (chV (u.2 1) (u.2 2) (u.2 3) (nI a1))), (8, .int (nI k))]) hx hb dX5_isFilm_125 hl (by decide) rfl (fun ls hl => ?_)
                        refine lv_iinc (v := nI (k + 1)) (lv' := [(8, .int (nI (k + 1))), (7, .int (nI 0)), (0, .ref (h 0)), (2, .int (nI js31)), (3, .int (nI ji31)), (4, .int (nI n2)), (6, .int (chV (u.2 1) (u.2 2) (u.2 3) (nI a1)))]) hx hb dX5_isFilm_127 hl (k := 6) rfl (nI_1 k) (by decide) rfl (fun ls hl => ?_)
                        refine lv_goto (tgt := 72) hx hb dX5_isFilm_130 (by decide) ?_
                        exact ih72 (k + 1) (nI 0) (by first | assumption | omega) (fun _ => hcn81) (by omega) _ _ ls hP hD hS (lv_sub hl [2, 3, 4, 5, 6, 1, 0] rfl)
                      · skip
                        have n117 : ((sj (((40 * js31) + ji31) + k)) &&& 255) = (((u.2 5) i111).toInt64) := (lg_cmp_eq _ _).mp c117
                        refine lv_iconst (v := nI 1) hx hb dX5_isFilm_120 (by decide) ?_
                        refine lv_goto (tgt := 125) hx hb dX5_isFilm_121 (by decide) ?_
                        refine lv_istore (lv' := [(7, .int (nI 1)), (0, .ref (h 0)), (2, .int (nI js31)), (3, .int (nI ji31)), (4, .int (nI n2)), (6, .int (chV (u.2 1) (u.2 2) (u.2 3) (nI a1))), (8, .int (nI k))]) hx hb dX5_isFilm_125 hl (by decide) rfl (fun ls hl => ?_)
                        refine lv_iinc (v := nI (k + 1)) (lv' := [(8, .int (nI (k + 1))), (7, .int (nI 1)), (0, .ref (h 0)), (2, .int (nI js31)), (3, .int (nI ji31)), (4, .int (nI n2)), (6, .int (chV (u.2 1) (u.2 2) (u.2 3) (nI a1)))]) hx hb dX5_isFilm_127 hl (k := 6) rfl (nI_1 k) (by decide) rfl (fun ls hl => ?_)
                        refine lv_goto (tgt := 72) hx hb dX5_isFilm_130 (by decide) ?_
                        exact ih72 (k + 1) (nI 1) (by first | assumption | omega) (fun _ => hcn81) (by omega) _ _ ls hP hD hS (lv_sub hl [2, 3, 4, 5, 6, 1, 0] rfl)
                    · skip
                      exact absurd (show cnt (sdb (u.2 6) (u.2 7) (chV (u.2 1) (u.2 2) (u.2 3) (nI a1))) nl ≤ k from hq111) (by rw [hcn c81]; exact n76)
            exact LP72 (n2 - 0 + 1) 0 (nI 1) (by first | assumption | omega) (by first | (intro q; exact absurd rfl q) | (intro _; assumption)) (Nat.lt_succ_self _) _ _ ls hP hD hS (lv_sub hl [4, 6, 7, 8, 2, 1, 0] rfl)
        · skip
          refine lv_istore (lv' := [(5, .int (-1000000001 : Int32)), (0, .ref (h 0)), (1, .int (nI a1)), (2, .int s1), (3, .int i1), (4, .int (nI n2))]) hx hb dX5_isFilm_34 hl (by decide) rfl (fun ls hl => ?_)
          refine lv_iload hx hb dX5_isFilm_36 (lv_at hl 0 rfl) ?_
          refine lv_if_eq (tgt := 44) hx hb dX5_isFilm_38 (by decide) (fun c9 => absurd c9 (by decide)) (fun _ => ?_)
          refine lv_iload hx hb dX5_isFilm_41 (lv_at hl 0 rfl) ?_
          exact W.iret (v := (-1000000001 : Int32)) hx hb hr (fun t ht hW => ⟨⟨(-1000000001 : Int32), (u, lt, sj), rfl, ⟨⟨nv, nl, nt, nh, hI0⟩, ⟨rfl, rfl, rfl⟩, rfl, rfl⟩, show PP G (mw G h u lt sj) t.heap by rw [ht]; exact hP⟩, hS.F ht⟩) hS.2.2 dX5_isFilm_43
        · skip
          refine lv_istore (lv' := [(5, .int (-1000000011 : Int32)), (0, .ref (h 0)), (1, .int (nI a1)), (2, .int s1), (3, .int i1), (4, .int (nI n2))]) hx hb dX5_isFilm_34 hl (by decide) rfl (fun ls hl => ?_)
          refine lv_iload hx hb dX5_isFilm_36 (lv_at hl 0 rfl) ?_
          refine lv_if_eq (tgt := 44) hx hb dX5_isFilm_38 (by decide) (fun c9 => absurd c9 (by decide)) (fun _ => ?_)
          refine lv_iload hx hb dX5_isFilm_41 (lv_at hl 0 rfl) ?_
          exact W.iret (v := (-1000000011 : Int32)) hx hb hr (fun t ht hW => ⟨⟨(-1000000011 : Int32), (u, lt, sj), rfl, ⟨⟨nv, nl, nt, nh, hI0⟩, ⟨rfl, rfl, rfl⟩, rfl, rfl⟩, show PP G (mw G h u lt sj) t.heap by rw [ht]; exact hP⟩, hS.F ht⟩) hS.2.2 dX5_isFilm_43
        · skip
          refine lv_istore (lv' := [(5, .int (-1000000012 : Int32)), (0, .ref (h 0)), (1, .int (nI a1)), (2, .int s1), (3, .int i1), (4, .int (nI n2))]) hx hb dX5_isFilm_34 hl (by decide) rfl (fun ls hl => ?_)
          refine lv_iload hx hb dX5_isFilm_36 (lv_at hl 0 rfl) ?_
          refine lv_if_eq (tgt := 44) hx hb dX5_isFilm_38 (by decide) (fun c9 => absurd c9 (by decide)) (fun _ => ?_)
          refine lv_iload hx hb dX5_isFilm_41 (lv_at hl 0 rfl) ?_
          exact W.iret (v := (-1000000012 : Int32)) hx hb hr (fun t ht hW => ⟨⟨(-1000000012 : Int32), (u, lt, sj), rfl, ⟨⟨nv, nl, nt, nh, hI0⟩, ⟨rfl, rfl, rfl⟩, rfl, rfl⟩, show PP G (mw G h u lt sj) t.heap by rw [ht]; exact hP⟩, hS.F ht⟩) hS.2.2 dX5_isFilm_43
      · skip
        refine lv_ldc (v := (-1000000002 : Int32)) hx hb hown (hts (.constant RX5 100 (-1000000002)) (List.mem_of_getElem? (i := 2) rfl)) dX5_isFilm_23 ?_
        exact W.iret (v := (-1000000002 : Int32)) hx hb hr (fun t ht hW => ⟨⟨(-1000000002 : Int32), (u, lt, sj), rfl, ⟨⟨nv, nl, nt, nh, hI0⟩, ⟨rfl, rfl, rfl⟩, rfl, rfl⟩, show PP G (mw G h u lt sj) t.heap by rw [ht]; exact hP⟩, hS.F ht⟩) hS.2.2 dX5_isFilm_25
    · skip
      refine lv_if_ne (tgt := 18) hx hb dX5_isFilm_12 (by decide) (fun c9 => absurd (by decide) c9) (fun _ => ?_)
      refine lv_ldc (v := (-1000000001 : Int32)) hx hb hown (hts (.constant RX5 216 (-1000000001)) (List.mem_of_getElem? (i := 1) rfl)) dX5_isFilm_15 ?_
      exact W.iret (v := (-1000000001 : Int32)) hx hb hr (fun t ht hW => ⟨⟨(-1000000001 : Int32), (u, lt, sj), rfl, ⟨⟨nv, nl, nt, nh, hI0⟩, ⟨rfl, rfl, rfl⟩, rfl, rfl⟩, show PP G (mw G h u lt sj) t.heap by rw [ht]; exact hP⟩, hS.F ht⟩) hS.2.2 dX5_isFilm_17
  · skip
    refine lv_if_eq (tgt := 15) hx hb dX5_isFilm_5 (by decide) (fun _ => ?_) (fun c9 => absurd (by decide) c9)
    refine lv_ldc (v := (-1000000001 : Int32)) hx hb hown (hts (.constant RX5 216 (-1000000001)) (List.mem_of_getElem? (i := 1) rfl)) dX5_isFilm_15 ?_
    exact W.iret (v := (-1000000001 : Int32)) hx hb hr (fun t ht hW => ⟨⟨(-1000000001 : Int32), (u, lt, sj), rfl, ⟨⟨nv, nl, nt, nh, hI0⟩, ⟨rfl, rfl, rfl⟩, rfl, rfl⟩, show PP G (mw G h u lt sj) t.heap by rw [ht]; exact hP⟩, hS.F ht⟩) hS.2.2 dX5_isFilm_17
set_option maxHeartbeats 1000000 in
set_option maxRecDepth 100000 in
theorem mt_X5_feed (l : Launch) (G : gG) (h : Nat → Nat) (sz : Nat) (u : oS) (lt : Int64) (sj : Nat → Int64) (a : Int32) (nv nl nt nh : Nat) (hI : MIx u nv nl nt nh) : Met l yX5_feed wsX5_feed ({ frames := 1, cells := 0, slots := 0, locals := 25 }) (preW G (mw G h u lt sj) sz [.ref (h 0), .int a]) (va_Qi (fun (r : Int32) (v : oS × Int64 × (Nat → Int64)) => MIp v.1 ∧ v.1.2 32 = u.2 32 ∧ v.1.2 33 = u.2 33 ∧ v.1.1 11 = u.1 11 ∧ ((r = -1000000002 ∧ v.1.1 10 = u.1 10 ∧ v.1.2 9 = u.2 9 ∧ ∀ j, j ≤ 255 → a ≠ nI j) ∨ ((∃ j, j ≤ 255 ∧ a = nI j) ∧ nt = 240 ∧ r = -1000000004 ∧ v.1.1 10 = u.1 10 ∧ v.1.2 9 = u.2 9) ∨ ((∃ j, j ≤ 255 ∧ a = nI j) ∧ nt < 240 ∧ r = nI (nt + 1) ∧ v.1.1 10 = nI (nt + 1) ∧ v.1.2 9 = upd (u.2 9) nt a))) (fun v t => PP G (mw G h v.1 v.2.1 v.2.2) t.heap) (va_A (mw G h u lt sj) sz)) 0 0 (va_A (mw G h u lt sj) sz) := by
  refine Met.ofW (cc := cX5_feed) (maxL := 2) (ret := (some .int)) (by decide) rfl ?_
  intro p e s m args below meth c s₁ B hml hv
  obtain ⟨ha, hsz, hP, hK, hN, hD0⟩ := hv
  subst ha
  have hx := B.exec
  have hb := B.bytes
  have hr := B.returns
  have hts := atoms_spec (ws := wsX5_feed) B.pre
  have hown : s.vm.findClass RX5 = some m.cls := findClass_of_methodNamed B.named
  have hlocks := B.notSynchronized
  subst hsz
  have hD := hD0.self (sz := s.heap.size)
  generalize hAe : va_A (mw G h u lt sj) s.heap.size = A at hD ⊢
  have hA : ∀ q : Nat, s.heap.size ≤ q → A q := fun q h => by rw [← hAe]; exact Or.inr h
  clear hAe hD0
  have hS : va_S A s.heap s.heap [] := va_S.rf
  have hiX5 : ∀ w ∈ wsX50, w ∈ wsX5_feed := by decide +kernel
  have k101 := hts (.fieldLink RX5 101 "WovenHistoryModel" "texted" "I") (List.mem_of_getElem? (i := 3) rfl)
  have k28 := hts (.fieldLink RX5 28 "WovenHistoryModel" "text" "[I") (List.mem_of_getElem? (i := 5) rfl)
  have hl := lv_entry ([.ref (h 0), .int a]) (n := 2) (Nat.le_of_ble_eq_true rfl)
  rw [lg_entry_eq]
  generalize (lg_sl ([.ref (h 0), .int a]) ++ List.replicate (2 - (lg_sl ([.ref (h 0), .int a])).length) Slot.unset).toArray = ls at hl ⊢
  have hl : lv_has ls 2 [(0, .ref (h 0)), (1, .int a)] := hl
  have hI0 := hI
  obtain ⟨hnv, hnl, hnt, hnh, hnv24, hnl120, hnt240, hnh120, hop, hopn, hparV, hsz4, himg⟩ := hI
  refine lv_iload_n hx hb dX5_feed_0 rfl (lv_at hl 1 rfl) ?_
  refine lv_i2l (v := a.toInt64) hx hb dX5_feed_1 rfl ?_
  refine lv_lconst (v := 0) hx hb dX5_feed_2 (by decide) ?_
  refine lv_ldc2 (v := 255) hx hb hown (hts (.constantLong RX5 98 (255)) (List.mem_of_getElem? (i := 1) rfl)) dX5_feed_3 ?_
  refine cSi (As := [.long a.toInt64, .long 0, .long 255]) (rest := []) ⟨hx, hb, hml, hown, hts⟩ (mt_X5_in l a.toInt64 0 255) (va_cwS 3 hts gX5_feed_X5_in rfl rfl rfl (by decide +kernel) ⟨Nat.le_of_ble_eq_true rfl, Nat.le_of_ble_eq_true rfl⟩) rfl hl.1 rfl (Nat.le_of_ble_eq_true rfl) ⟨Nat.zero_le _, Nat.zero_le _⟩ dX5_feed_6 (fun r6 hw6 => ?_)
  rcases hw6 with ⟨rfl, ha6, hb6⟩ | ⟨rfl, hn6⟩
  · skip
    obtain ⟨a1, ha1, ha2, ea⟩ := rng_y (a := 0) (b := 255) (by decide) (by decide) (by omega) ha6 hb6
    refine lv_if_ne (tgt := 15) hx hb dX5_feed_9 (by decide) (fun _ => ?_) (fun c9 => absurd c9 (by decide))
    refine lv_aload_n hx hb dX5_feed_15 rfl (lv_at hl 0 rfl) ?_
    refine va_get (D := gD G) (ci := 5) (v := .int (u.1 10)) (C := RX5) (T := TX5) (N := 38) hx hb hts hiX5 hown hK hP 0 rfl rfl 10 (by decide) k101 (fun _ h9 => h9) rfl dX5_feed_16 ?_
    refine topE hnt ?_
    refine lv_sipush (v := nI 240) hx hb dX5_feed_19 (by decide) ?_
    refine lv_icmp_ne (tgt := 28) hx hb dX5_feed_22 (by decide) (fun c22 => ?_) (fun c22 => ?_)
    · skip
      have n22 : ¬ (nt = 240) := fun q9 => c22 ((nI_eq (a := nt) (b := 240) (by omega) (by omega)).mpr q9)
      refine lv_aload_n hx hb dX5_feed_28 rfl (lv_at hl 0 rfl) ?_
      refine va_get (D := gD G) (ci := 5) (v := .ref (h 9)) (C := RX5) (T := TX5) (N := 38) hx hb hts hiX5 hown hK hP 0 rfl rfl 9 (by decide) k28 (fun _ h9 => h9) rfl dX5_feed_29 ?_
      refine lv_aload_n hx hb dX5_feed_32 rfl (lv_at hl 0 rfl) ?_
      refine va_get (D := gD G) (ci := 5) (v := .int (u.1 10)) (C := RX5) (T := TX5) (N := 38) hx hb hts hiX5 hown hK hP 0 rfl rfl 10 (by decide) k101 (fun _ h9 => h9) rfl dX5_feed_33 ?_
      refine topE hnt ?_
      refine lv_iload_n hx hb dX5_feed_36 rfl (lv_at hl 1 rfl) ?_
      refine iastN (f := u.2 9) (n := 240) (k := nt) hx hb hK hP hD hS 7 rfl rfl (by omega) dX5_feed_37 (fun H locs hP hD hS => ?_)
      have hP : PP G (mw G h (oA u 9 (upd (u.2 9) nt a)) lt sj) H := hP
      have hD : va_D A (mw G h (oA u 9 (upd (u.2 9) nt a)) lt sj) := hD
      refine lv_aload_n hx hb dX5_feed_38 rfl (lv_at hl 0 rfl) ?_
      refine lv_dup hx hb dX5_feed_39 rfl ?_
      refine va_get (D := gD G) (ci := 5) (v := .int ((oA u 9 (upd (u.2 9) nt a)).1 10)) (C := RX5) (T := TX5) (N := 38) hx hb hts hiX5 hown hK hP 0 rfl rfl 10 (by decide) k101 (fun _ h9 => h9) rfl dX5_feed_40 ?_
      refine topE hnt ?_
      refine lv_iconst (v := nI 1) hx hb dX5_feed_43 (by decide) ?_
      refine lv_iadd hx hb dX5_feed_44 ?_
      refine topE (y := nI (nt + 1)) (nI_add nt 1) ?_
      refine va_put (D := gD G) (ci := 5) (v := .int (nI (nt + 1))) (ty := .int) (C := RX5) (T := TX5) (N := 38) hx hb hts hiX5 tyX5 tyX5_ok nmX5 hown hK hP hD hS 0 rfl rfl 10 (by decide) k101 (fun _ h9 => h9) rfl (by decide +kernel) (rfl) (rfl) (Nat.le_of_ble_eq_true rfl) dX5_feed_45 (fun H locs hP hD hS => ?_)
      have hP : PP G (mw G h (oI (oA u 9 (upd (u.2 9) nt a)) 10 (nI (nt + 1))) lt sj) H := hP
      have hD : va_D A (mw G h (oI (oA u 9 (upd (u.2 9) nt a)) 10 (nI (nt + 1))) lt sj) := hD
      refine lv_aload_n hx hb dX5_feed_48 rfl (lv_at hl 0 rfl) ?_
      refine va_get (D := gD G) (ci := 5) (v := .int (nI (nt + 1))) (C := RX5) (T := TX5) (N := 38) hx hb hts hiX5 hown hK hP 0 rfl rfl 10 (by decide) k101 (fun _ h9 => h9) rfl dX5_feed_49 ?_
      exact W.iret (v := nI (nt + 1)) hx hb hr (fun t ht hW => ⟨⟨nI (nt + 1), (oI (oA u 9 (upd (u.2 9) nt a)) 10 (nI (nt + 1)), lt, sj), rfl, ⟨⟨nv, nl, nt + 1, nh, hnv, hnl, rfl, hnh, hnv24, hnl120, by omega, hnh120, hop, hopn, hparV, hsz4, himg⟩, rfl, rfl, rfl, Or.inr (Or.inr ⟨⟨a1, ha2, ea⟩, by omega, rfl, rfl, rfl⟩)⟩, show PP G (mw G h (oI (oA u 9 (upd (u.2 9) nt a)) 10 (nI (nt + 1))) lt sj) t.heap by rw [ht]; exact hP⟩, hS.F ht⟩) hS.2.2 dX5_feed_52
    · skip
      have n22 : nt = 240 := (nI_eq (a := nt) (b := 240) (by omega) (by omega)).mp c22
      refine lv_ldc (v := (-1000000004 : Int32)) hx hb hown (hts (.constant RX5 104 (-1000000004)) (List.mem_of_getElem? (i := 4) rfl)) dX5_feed_25 ?_
      exact W.iret (v := (-1000000004 : Int32)) hx hb hr (fun t ht hW => ⟨⟨(-1000000004 : Int32), (u, lt, sj), rfl, ⟨⟨nv, nl, nt, nh, hI0⟩, rfl, rfl, rfl, Or.inr (Or.inl ⟨⟨a1, ha2, ea⟩, by assumption, rfl, rfl, rfl⟩)⟩, show PP G (mw G h u lt sj) t.heap by rw [ht]; exact hP⟩, hS.F ht⟩) hS.2.2 dX5_feed_27
  · skip
    refine lv_if_ne (tgt := 15) hx hb dX5_feed_9 (by decide) (fun c9 => absurd (by decide) c9) (fun _ => ?_)
    refine lv_ldc (v := (-1000000002 : Int32)) hx hb hown (hts (.constant RX5 100 (-1000000002)) (List.mem_of_getElem? (i := 2) rfl)) dX5_feed_12 ?_
    exact W.iret (v := (-1000000002 : Int32)) hx hb hr (fun t ht hW => ⟨⟨(-1000000002 : Int32), (u, lt, sj), rfl, ⟨⟨nv, nl, nt, nh, hI0⟩, rfl, rfl, rfl, Or.inl ⟨rfl, rfl, rfl, rng_n (by decide) hn6⟩⟩, show PP G (mw G h u lt sj) t.heap by rw [ht]; exact hP⟩, hS.F ht⟩) hS.2.2 dX5_feed_14
