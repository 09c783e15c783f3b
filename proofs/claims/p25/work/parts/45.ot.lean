theorem RepM_26 {u : oS} {sj : Nat → Int64} {s : pS} {zz : Nat → Nat → Int64} (g : Nat → Int32) (h : RepM u sj s zz) : RepM (oA u 26 g) sj s zz := h.of (fun _ _ => rfl) (fun k hk => by rw [oA_2, if_neg (by omega)])

set_option maxHeartbeats 1000000 in
set_option maxRecDepth 100000 in
theorem mt_X5_versionS (l : Launch) (G : gG) (h : Nat → Nat) (sz : Nat) (u : oS) (lt : Int64) (sj : Nat → Int64) (sg : pS) (zz : Nat → Nat → Int64) (a : Int32) (what : Int32) (nh : Nat) (hI : MIx u (sg.1 0) (sg.1 4) (sg.1 10) nh) (hIS : IS sg) (hRM : RepM u sj sg zz) : Met l yX5_version wsX5_version ({ frames := 3, cells := 0, slots := 0, locals := 66 }) (preW G (mw G h u lt sj) sz [.ref (h 0), .int a, .int what]) (va_Qi (fun (r : Int32) (v : oS × Int64 × (Nat → Int64)) => RepM v.1 v.2.2 (sg) (zz) ∧ r = verA sg a what) (fun v t => PP G (mw G h v.1 v.2.1 v.2.2) t.heap) (va_A (mw G h u lt sj) sz)) 0 0 (va_A (mw G h u lt sj) sz) := by
  refine Met.ofW (cc := cX5_version) (maxL := 3) (ret := (some .int)) (by decide) rfl ?_
  intro p e s m args below meth c s₁ B hml hv
  obtain ⟨ha, hsz, hP, hK, hN, hD0⟩ := hv
  subst ha
  have hx := B.exec
  have hb := B.bytes
  have hr := B.returns
  have hts := atoms_spec (ws := wsX5_version) B.pre
  have hown : s.vm.findClass RX5 = some m.cls := findClass_of_methodNamed B.named
  have hlocks := B.notSynchronized
  subst hsz
  have hD := hD0.self (sz := s.heap.size)
  generalize hAe : va_A (mw G h u lt sj) s.heap.size = A at hD ⊢
  have hA : ∀ q : Nat, s.heap.size ≤ q → A q := fun q h => by rw [← hAe]; exact Or.inr h
  clear hAe hD0
  have hS : va_S A s.heap s.heap [] := va_S.rf
  have hiX5 : ∀ w ∈ wsX50, w ∈ wsX5_version := fun w h9 => List.mem_cons_of_mem _ (List.mem_append_right _ (h9))
  have k7 := hts (.fieldLink RX5 7 "WovenHistoryModel" "parent" "[I") (List.mem_of_getElem? (i := 2) rfl)
  have k13 := hts (.fieldLink RX5 13 "WovenHistoryModel" "includes" "[I") (List.mem_of_getElem? (i := 3) rfl)
  have k16 := hts (.fieldLink RX5 16 "WovenHistoryModel" "excludes" "[I") (List.mem_of_getElem? (i := 4) rfl)
  have hl := lv_entry ([.ref (h 0), .int a, .int what]) (n := 3) (Nat.le_of_ble_eq_true rfl)
  rw [lg_entry_eq]
  generalize (lg_sl ([.ref (h 0), .int a, .int what]) ++ List.replicate (3 - (lg_sl ([.ref (h 0), .int a, .int what])).length) Slot.unset).toArray = ls at hl ⊢
  have hl : lv_has ls 3 [(0, .ref (h 0)), (1, .int a), (2, .int what)] := hl
  have hC := hRM.1
  have hic := hIS.ic
  have hle8 := hIS.2.2.1
  have h8e := hRM.2.1
  have hI0 := hI
  obtain ⟨hnv, hnl, hnt, hnh, hnv24, hnl120, hnt240, hnh120, hop, hopn, hparV, hsz4, himg⟩ := hI
  refine lv_aload_n hx hb dX5_version_0 rfl (lv_at hl 0 rfl) ?_
  refine lv_iload_n hx hb dX5_version_1 rfl (lv_at hl 1 rfl) ?_
  refine cRi (w := mw G h u lt sj) (As := [.int a]) (rest := []) ⟨hx, hb, hml, hown, hts⟩ (mt_X5_isVersion l G h u lt sj (sg.1 0) a (hnv) (by first | assumption | omega)) (cwV 1 hts gX5_version_X5_isVersion rfl rfl rfl ⟨rfl, hd_X5_isVersion⟩ ⟨Nat.le_of_ble_eq_true rfl, Nat.le_of_ble_eq_true rfl⟩) hK hN hP 0 5 rfl rfl rfl hl.1 rfl (Nat.le_of_ble_eq_true rfl) ⟨Nat.zero_le _, Nat.zero_le _⟩ dX5_version_2 (fun r2 hw2 => ?_)
  rcases hw2 with ⟨rfl, a1, ha1, rfl⟩ | ⟨rfl, hna1⟩
  · skip
    refine lv_if_ne (tgt := 11) hx hb dX5_version_5 (by decide) (fun _ => ?_) (fun c9 => absurd c9 (by decide))
    refine lv_iload_n hx hb dX5_version_11 rfl (lv_at hl 2 rfl) ?_
    by_cases q12_0 : what = 0
    · skip
      subst q12_0
      refine lv_tableIn (tgt := 56) hx hb dX5_version_12 (by decide) (by decide) rfl (by decide) ?_
      refine lv_aload_n hx hb dX5_version_56 rfl (lv_at hl 0 rfl) ?_
      refine va_get (D := gD G) (ci := 5) (v := .ref (h 1)) (C := RX5) (T := TX5) (N := 38) hx hb hts hiX5 hown hK hP 0 rfl rfl 1 (by decide) k7 (fun _ h9 => h9) rfl dX5_version_57 ?_
      refine lv_iload_n hx hb dX5_version_60 rfl (lv_at hl 1 rfl) ?_
      refine ialdN (f := u.2 1) (n := 25) (k := a1) hx hb hK hP 1 rfl rfl (by omega) dX5_version_61 ?_
      exact W.iret (v := (u.2 1) a1) hx hb hr (fun t ht hW => ⟨⟨(u.2 1) a1, (u, lt, sj), rfl, ⟨hRM, by rw [verA, if_pos (inR_t ha1 (by omega)), vN_n (by omega), verB, if_pos rfl]; exact hC.2.2.1 a1 (by omega)⟩, show PP G (mw G h u lt sj) t.heap by rw [ht]; exact hP⟩, hS.F ht⟩) hS.2.2 dX5_version_62
    by_cases q12_1 : what = 1
    · skip
      subst q12_1
      refine lv_tableIn (tgt := 63) hx hb dX5_version_12 (by decide) (by decide) rfl (by decide) ?_
      refine lv_aload_n hx hb dX5_version_63 rfl (lv_at hl 0 rfl) ?_
      refine lv_iload_n hx hb dX5_version_64 rfl (lv_at hl 1 rfl) ?_
      have hP := mw_self26 hP
      have hD : va_D A (mw G h (oA u 26 (u.2 26)) lt sj) := mw_self26D hD
      refine cXi (As := [.int (nI a1)]) (rest := []) (S := oS × Int64 × (Nat → Int64)) (wa := mw G h (oA u 26 (u.2 26)) lt sj) (w1 := fun v => mw G h v.1 v.2.1 v.2.2) ⟨hx, hb, hml, hown, hts⟩ (mt_X5_changesOf l G h _ u lt sj (u.2 26) a1 (by first | assumption | omega) (hparV.le (by omega))) (cwV 1 hts gX5_version_X5_changesOf rfl rfl rfl ⟨rfl, hd_X5_changesOf⟩ ⟨Nat.le_of_ble_eq_true rfl, Nat.le_of_ble_eq_true rfl⟩) hK hN hP hD hS hA (fun _ => rfl) 0 5 rfl rfl rfl hl.1 rfl (Nat.le_of_ble_eq_true rfl) ⟨Nat.zero_le _, Nat.zero_le _⟩ dX5_version_65 (fun r65 u65 H locs hw65 hP hD hS => ?_)
      obtain ⟨g65, rfl, rfl⟩ := hw65
      have hP : PP G (mw G h (oA u 26 g65) lt sj) H := hP
      have hD : va_D A (mw G h (oA u 26 g65) lt sj) := hD
      exact W.iret (v := chV (u.2 1) (u.2 2) (u.2 3) (nI a1)) hx hb hr (fun t ht hW => ⟨⟨chV (u.2 1) (u.2 2) (u.2 3) (nI a1), (oA u 26 g65, lt, sj), rfl, ⟨RepM_26 _ hRM, by rw [verA, if_pos (inR_t ha1 (by omega)), vN_n (by omega), verB, if_neg (show ¬ (1 : Int32) = (0 : Int32) by decide), if_pos rfl]; exact hC.cv hic (by omega)⟩, show PP G (mw G h (oA u 26 g65) lt sj) t.heap by rw [ht]; exact hP⟩, hS.F ht⟩) hS.2.2 dX5_version_68
    by_cases q12_2 : what = 2
    · skip
      subst q12_2
      refine lv_tableIn (tgt := 69) hx hb dX5_version_12 (by decide) (by decide) rfl (by decide) ?_
      refine lv_aload_n hx hb dX5_version_69 rfl (lv_at hl 0 rfl) ?_
      refine va_get (D := gD G) (ci := 5) (v := .ref (h 2)) (C := RX5) (T := TX5) (N := 38) hx hb hts hiX5 hown hK hP 0 rfl rfl 2 (by decide) k13 (fun _ h9 => h9) rfl dX5_version_70 ?_
      refine lv_iload_n hx hb dX5_version_73 rfl (lv_at hl 1 rfl) ?_
      refine ialdN (f := u.2 2) (n := 25) (k := a1) hx hb hK hP 2 rfl rfl (by omega) dX5_version_74 ?_
      exact W.iret (v := (u.2 2) a1) hx hb hr (fun t ht hW => ⟨⟨(u.2 2) a1, (u, lt, sj), rfl, ⟨hRM, by rw [verA, if_pos (inR_t ha1 (by omega)), vN_n (by omega), verB, if_neg (show ¬ (2 : Int32) = (0 : Int32) by decide), if_neg (show ¬ (2 : Int32) = (1 : Int32) by decide), if_pos rfl]; exact hC.2.2.2.1 a1 (by omega)⟩, show PP G (mw G h u lt sj) t.heap by rw [ht]; exact hP⟩, hS.F ht⟩) hS.2.2 dX5_version_75
    by_cases q12_3 : what = 3
    · skip
      subst q12_3
      refine lv_tableIn (tgt := 76) hx hb dX5_version_12 (by decide) (by decide) rfl (by decide) ?_
      refine lv_aload_n hx hb dX5_version_76 rfl (lv_at hl 0 rfl) ?_
      refine va_get (D := gD G) (ci := 5) (v := .ref (h 3)) (C := RX5) (T := TX5) (N := 38) hx hb hts hiX5 hown hK hP 0 rfl rfl 3 (by decide) k16 (fun _ h9 => h9) rfl dX5_version_77 ?_
      refine lv_iload_n hx hb dX5_version_80 rfl (lv_at hl 1 rfl) ?_
      refine ialdN (f := u.2 3) (n := 25) (k := a1) hx hb hK hP 3 rfl rfl (by omega) dX5_version_81 ?_
      exact W.iret (v := (u.2 3) a1) hx hb hr (fun t ht hW => ⟨⟨(u.2 3) a1, (u, lt, sj), rfl, ⟨hRM, by rw [verA, if_pos (inR_t ha1 (by omega)), vN_n (by omega), verB, if_neg (show ¬ (3 : Int32) = (0 : Int32) by decide), if_neg (show ¬ (3 : Int32) = (1 : Int32) by decide), if_neg (show ¬ (3 : Int32) = (2 : Int32) by decide), if_pos rfl]; exact hC.2.2.2.2.1 a1 (by omega)⟩, show PP G (mw G h u lt sj) t.heap by rw [ht]; exact hP⟩, hS.F ht⟩) hS.2.2 dX5_version_82
    by_cases q12_4 : what = 4
    · skip
      subst q12_4
      refine lv_tableIn (tgt := 83) hx hb dX5_version_12 (by decide) (by decide) rfl (by decide) ?_
      refine lv_aload_n hx hb dX5_version_83 rfl (lv_at hl 0 rfl) ?_
      refine lv_aload_n hx hb dX5_version_84 rfl (lv_at hl 0 rfl) ?_
      refine lv_iload_n hx hb dX5_version_85 rfl (lv_at hl 1 rfl) ?_
      have hP := mw_self26 hP
      have hD : va_D A (mw G h (oA u 26 (u.2 26)) lt sj) := mw_self26D hD
      refine cXi (As := [.int (nI a1)]) (rest := [.ref (h 0)]) (S := oS × Int64 × (Nat → Int64)) (wa := mw G h (oA u 26 (u.2 26)) lt sj) (w1 := fun v => mw G h v.1 v.2.1 v.2.2) ⟨hx, hb, hml, hown, hts⟩ (mt_X5_changesOf l G h _ u lt sj (u.2 26) a1 (by first | assumption | omega) (hparV.le (by omega))) (cwV 1 hts gX5_version_X5_changesOf rfl rfl rfl ⟨rfl, hd_X5_changesOf⟩ ⟨Nat.le_of_ble_eq_true rfl, Nat.le_of_ble_eq_true rfl⟩) hK hN hP hD hS hA (fun _ => rfl) 0 5 rfl rfl rfl hl.1 rfl (Nat.le_of_ble_eq_true rfl) ⟨Nat.zero_le _, Nat.zero_le _⟩ dX5_version_86 (fun r86 u86 H locs hw86 hP hD hS => ?_)
      obtain ⟨g86, rfl, rfl⟩ := hw86
      have hP : PP G (mw G h (oA u 26 g86) lt sj) H := hP
      have hD : va_D A (mw G h (oA u 26 g86) lt sj) := hD
      refine cRi (w := mw G h (oA u 26 g86) lt sj) (As := [.int (chV (u.2 1) (u.2 2) (u.2 3) (nI a1))]) (rest := []) ⟨hx, hb, hml, hown, hts⟩ (mt_X5_manyOf l G h (oA u 26 g86) lt sj (sg.1 4) (chV (u.2 1) (u.2 2) (u.2 3) (nI a1)) (hnl) (by first | assumption | omega)) (cwV 1 hts gX5_version_X5_manyOf rfl rfl rfl ⟨rfl, hd_X5_manyOf⟩ ⟨Nat.le_of_ble_eq_true rfl, Nat.le_of_ble_eq_true rfl⟩) hK hN hP 0 5 rfl rfl rfl hl.1 rfl (Nat.le_of_ble_eq_true rfl) ⟨Nat.zero_le _, Nat.zero_le _⟩ dX5_version_89 (fun r89 hw89 => ?_)
      obtain rfl := hw89
      have hc89 := cnt_le (sdb ((oA u 26 g86).2 6) ((oA u 26 g86).2 7) (chV (u.2 1) (u.2 2) (u.2 3) (nI a1))) (sg.1 4)
      exact W.iret (v := nI (cnt (sdb ((oA u 26 g86).2 6) ((oA u 26 g86).2 7) (chV (u.2 1) (u.2 2) (u.2 3) (nI a1))) (sg.1 4))) hx hb hr (fun t ht hW => ⟨⟨nI (cnt (sdb ((oA u 26 g86).2 6) ((oA u 26 g86).2 7) (chV (u.2 1) (u.2 2) (u.2 3) (nI a1))) (sg.1 4)), (oA u 26 g86, lt, sj), rfl, ⟨RepM_26 _ hRM, by rw [verA, if_pos (inR_t ha1 (by omega)), vN_n (by omega), verB, if_neg (show ¬ (4 : Int32) = (0 : Int32) by decide), if_neg (show ¬ (4 : Int32) = (1 : Int32) by decide), if_neg (show ¬ (4 : Int32) = (2 : Int32) by decide), if_neg (show ¬ (4 : Int32) = (3 : Int32) by decide), if_pos rfl]; exact by rw [hC.cv hic (by omega)]; exact congrArg nI (hC.nl _)⟩, show PP G (mw G h (oA u 26 g86) lt sj) t.heap by rw [ht]; exact hP⟩, hS.F ht⟩) hS.2.2 dX5_version_92
    by_cases q12_5 : what = 5
    · skip
      subst q12_5
      refine lv_tableIn (tgt := 93) hx hb dX5_version_12 (by decide) (by decide) rfl (by decide) ?_
      refine lv_aload_n hx hb dX5_version_93 rfl (lv_at hl 0 rfl) ?_
      refine lv_iload_n hx hb dX5_version_94 rfl (lv_at hl 1 rfl) ?_
      refine cRi (w := mw G h u lt sj) (As := [.int (nI a1)]) (rest := []) ⟨hx, hb, hml, hown, hts⟩ (mt_X5_broughtBy l G h u lt sj (sg.1 4) (nI a1) (hnl) (by first | assumption | omega)) (cwV 1 hts gX5_version_X5_broughtBy rfl rfl rfl ⟨rfl, hd_X5_broughtBy⟩ ⟨Nat.le_of_ble_eq_true rfl, Nat.le_of_ble_eq_true rfl⟩) hK hN hP 0 5 rfl rfl rfl hl.1 rfl (Nat.le_of_ble_eq_true rfl) ⟨Nat.zero_le _, Nat.zero_le _⟩ dX5_version_95 (fun r95 hw95 => ?_)
      obtain rfl := hw95
      have hc95 := cnt_le (fun i => decide (u.2 6 i = (nI a1))) (sg.1 4)
      exact W.iret (v := nI (cnt (fun i => decide (u.2 6 i = (nI a1))) (sg.1 4))) hx hb hr (fun t ht hW => ⟨⟨nI (cnt (fun i => decide (u.2 6 i = (nI a1))) (sg.1 4)), (u, lt, sj), rfl, ⟨hRM, by rw [verA, if_pos (inR_t ha1 (by omega)), vN_n (by omega), verB, if_neg (show ¬ (5 : Int32) = (0 : Int32) by decide), if_neg (show ¬ (5 : Int32) = (1 : Int32) by decide), if_neg (show ¬ (5 : Int32) = (2 : Int32) by decide), if_neg (show ¬ (5 : Int32) = (3 : Int32) by decide), if_neg (show ¬ (5 : Int32) = (4 : Int32) by decide), if_pos rfl]; exact congrArg nI (cnt_c _ (fun k hk => by rw [hC.2.2.2.2.2.2.1 k hk]))⟩, show PP G (mw G h u lt sj) t.heap by rw [ht]; exact hP⟩, hS.F ht⟩) hS.2.2 dX5_version_98
    by_cases q12_6 : what = 6
    · skip
      subst q12_6
      refine lv_tableIn (tgt := 99) hx hb dX5_version_12 (by decide) (by decide) rfl (by decide) ?_
      refine lv_aload_n hx hb dX5_version_99 rfl (lv_at hl 0 rfl) ?_
      refine lv_iload_n hx hb dX5_version_100 rfl (lv_at hl 1 rfl) ?_
      refine cRi (w := mw G h u lt sj) (As := [.int (nI a1)]) (rest := []) ⟨hx, hb, hml, hown, hts⟩ (mt_X5_tookBy l G h u lt sj (sg.1 4) (nI a1) (hnl) (by first | assumption | omega)) (cwV 1 hts gX5_version_X5_tookBy rfl rfl rfl ⟨rfl, hd_X5_tookBy⟩ ⟨Nat.le_of_ble_eq_true rfl, Nat.le_of_ble_eq_true rfl⟩) hK hN hP 0 5 rfl rfl rfl hl.1 rfl (Nat.le_of_ble_eq_true rfl) ⟨Nat.zero_le _, Nat.zero_le _⟩ dX5_version_101 (fun r101 hw101 => ?_)
      obtain rfl := hw101
      exact W.iret (v := nI (cnt (fun i => decide ((u.2 7 i >>> ((nI a1) &&& 31)) &&& 1 = 1)) (sg.1 4))) hx hb hr (fun t ht hW => ⟨⟨nI (cnt (fun i => decide ((u.2 7 i >>> ((nI a1) &&& 31)) &&& 1 = 1)) (sg.1 4)), (u, lt, sj), rfl, ⟨hRM, by rw [verA, if_pos (inR_t ha1 (by omega)), vN_n (by omega), verB, if_neg (show ¬ (6 : Int32) = (0 : Int32) by decide), if_neg (show ¬ (6 : Int32) = (1 : Int32) by decide), if_neg (show ¬ (6 : Int32) = (2 : Int32) by decide), if_neg (show ¬ (6 : Int32) = (3 : Int32) by decide), if_neg (show ¬ (6 : Int32) = (4 : Int32) by decide), if_neg (show ¬ (6 : Int32) = (5 : Int32) by decide), if_pos rfl]; exact congrArg nI (cnt_c _ (fun k hk => by unfold hasb; rw [hC.2.2.2.2.2.2.2 k hk]))⟩, show PP G (mw G h u lt sj) t.heap by rw [ht]; exact hP⟩, hS.F ht⟩) hS.2.2 dX5_version_104
    have t12_0 : ¬ what.toInt = 0 := lv_neT q12_0 rfl
    have t12_1 : ¬ what.toInt = 1 := lv_neT q12_1 rfl
    have t12_2 : ¬ what.toInt = 2 := lv_neT q12_2 rfl
    have t12_3 : ¬ what.toInt = 3 := lv_neT q12_3 rfl
    have t12_4 : ¬ what.toInt = 4 := lv_neT q12_4 rfl
    have t12_5 : ¬ what.toInt = 5 := lv_neT q12_5 rfl
    have t12_6 : ¬ what.toInt = 6 := lv_neT q12_6 rfl
    refine lv_tableOut (tgt := 105) hx hb dX5_version_12 (by omega) (by decide) ?_
    refine lv_ldc (v := (-1000000002 : Int32)) hx hb hown (hts (.constant RX5 100 (-1000000002)) (List.mem_of_getElem? (i := 5) rfl)) dX5_version_105 ?_
    exact W.iret (v := (-1000000002 : Int32)) hx hb hr (fun t ht hW => ⟨⟨(-1000000002 : Int32), (u, lt, sj), rfl, ⟨hRM, by rw [verA, if_pos (inR_t ha1 (by omega)), vN_n (by omega), verB, if_neg q12_0, if_neg q12_1, if_neg q12_2, if_neg q12_3, if_neg q12_4, if_neg q12_5, if_neg q12_6]⟩, show PP G (mw G h u lt sj) t.heap by rw [ht]; exact hP⟩, hS.F ht⟩) hS.2.2 dX5_version_107
  · skip
    refine lv_if_ne (tgt := 11) hx hb dX5_version_5 (by decide) (fun c9 => absurd (by decide) c9) (fun _ => ?_)
    refine lv_ldc (v := (-1000000001 : Int32)) hx hb hown (hts (.constant RX5 216 (-1000000001)) (List.mem_of_getElem? (i := 1) rfl)) dX5_version_8 ?_
    exact W.iret (v := (-1000000001 : Int32)) hx hb hr (fun t ht hW => ⟨⟨(-1000000001 : Int32), (u, lt, sj), rfl, ⟨hRM, by rw [verA, if_neg (inR_f (by omega) hna1)]⟩, show PP G (mw G h u lt sj) t.heap by rw [ht]; exact hP⟩, hS.F ht⟩) hS.2.2 dX5_version_10
set_option maxHeartbeats 1000000 in
set_option maxRecDepth 100000 in
theorem mt_X5_lineS (l : Launch) (G : gG) (h : Nat → Nat) (sz : Nat) (u : oS) (lt : Int64) (sj : Nat → Int64) (sg : pS) (zz : Nat → Nat → Int64) (i : Int32) (what : Int32) (nh : Nat) (hI : MIx u (sg.1 0) (sg.1 4) (sg.1 10) nh) (hIS : IS sg) (hRM : RepM u sj sg zz) : Met l yX5_line wsX5_line ({ frames := 3, cells := 0, slots := 0, locals := 66 }) (preW G (mw G h u lt sj) sz [.ref (h 0), .int i, .int what]) (va_Qi (fun (r : Int32) (v : oS × Int64 × (Nat → Int64)) => RepM v.1 v.2.2 (sg) (zz) ∧ r = linA sg i what) (fun v t => PP G (mw G h v.1 v.2.1 v.2.2) t.heap) (va_A (mw G h u lt sj) sz)) 0 0 (va_A (mw G h u lt sj) sz) := by
  refine Met.ofW (cc := cX5_line) (maxL := 3) (ret := (some .int)) (by decide) rfl ?_
  intro p e s m args below meth c s₁ B hml hv
  obtain ⟨ha, hsz, hP, hK, hN, hD0⟩ := hv
  subst ha
  have hx := B.exec
  have hb := B.bytes
  have hr := B.returns
  have hts := atoms_spec (ws := wsX5_line) B.pre
  have hown : s.vm.findClass RX5 = some m.cls := findClass_of_methodNamed B.named
  have hlocks := B.notSynchronized
  subst hsz
  have hD := hD0.self (sz := s.heap.size)
  generalize hAe : va_A (mw G h u lt sj) s.heap.size = A at hD ⊢
  have hA : ∀ q : Nat, s.heap.size ≤ q → A q := fun q h => by rw [← hAe]; exact Or.inr h
  clear hAe hD0
  have hS : va_S A s.heap s.heap [] := va_S.rf
  have hiX5 : ∀ w ∈ wsX50, w ∈ wsX5_line := fun w h9 => List.mem_cons_of_mem _ (List.mem_append_right _ (h9))
  have k175 := hts (.fieldLink RX5 175 "WovenHistoryModel" "lines" "I") (List.mem_of_getElem? (i := 1) rfl)
  have k19 := hts (.fieldLink RX5 19 "WovenHistoryModel" "letter" "[I") (List.mem_of_getElem? (i := 3) rfl)
  have k22 := hts (.fieldLink RX5 22 "WovenHistoryModel" "brought" "[I") (List.mem_of_getElem? (i := 4) rfl)
  have k25 := hts (.fieldLink RX5 25 "WovenHistoryModel" "took" "[I") (List.mem_of_getElem? (i := 5) rfl)
  have hl := lv_entry ([.ref (h 0), .int i, .int what]) (n := 3) (Nat.le_of_ble_eq_true rfl)
  rw [lg_entry_eq]
  generalize (lg_sl ([.ref (h 0), .int i, .int what]) ++ List.replicate (3 - (lg_sl ([.ref (h 0), .int i, .int what])).length) Slot.unset).toArray = ls at hl ⊢
  have hl : lv_has ls 3 [(0, .ref (h 0)), (1, .int i), (2, .int what)] := hl
  have hC := hRM.1
  have hic := hIS.ic
  have hle8 := hIS.2.2.1
  have h8e := hRM.2.1
  have hI0 := hI
  obtain ⟨hnv, hnl, hnt, hnh, hnv24, hnl120, hnt240, hnh120, hop, hopn, hparV, hsz4, himg⟩ := hI
  refine lv_iload_n hx hb dX5_line_0 rfl (lv_at hl 1 rfl) ?_
  refine lv_i2l (v := i.toInt64) hx hb dX5_line_1 rfl ?_
  refine lv_lconst (v := 0) hx hb dX5_line_2 (by decide) ?_
  refine lv_aload_n hx hb dX5_line_3 rfl (lv_at hl 0 rfl) ?_
  refine va_get (D := gD G) (ci := 5) (v := .int (u.1 4)) (C := RX5) (T := TX5) (N := 38) hx hb hts hiX5 hown hK hP 0 rfl rfl 4 (by decide) k175 (fun _ h9 => h9) rfl dX5_line_4 ?_
  refine topE hnl ?_
  refine lv_iconst (v := nI 1) hx hb dX5_line_7 (by decide) ?_
  refine lv_isub hx hb dX5_line_8 ?_
  refine lv_i2l (v := ((nI (sg.1 4)) - (nI 1)).toInt64) hx hb dX5_line_9 rfl ?_
  refine cSi (As := [.long i.toInt64, .long 0, .long (((nI (sg.1 4)) - (nI 1)).toInt64)]) (rest := []) ⟨hx, hb, hml, hown, hts⟩ (mt_X5_in l i.toInt64 0 (((nI (sg.1 4)) - (nI 1)).toInt64)) (va_cwS 3 hts gX5_line_X5_in rfl rfl rfl hd_X5_in ⟨Nat.le_of_ble_eq_true rfl, Nat.le_of_ble_eq_true rfl⟩) rfl hl.1 rfl (Nat.le_of_ble_eq_true rfl) ⟨Nat.zero_le _, Nat.zero_le _⟩ dX5_line_10 (fun r10 hw10 => ?_)
  rcases hw10 with ⟨rfl, ha10, hb10⟩ | ⟨rfl, hn10⟩
  · skip
    obtain ⟨i1, hi1, rfl⟩ := isv_y (by omega) ha10 hb10
    refine lv_if_ne (tgt := 19) hx hb dX5_line_13 (by decide) (fun _ => ?_) (fun c9 => absurd c9 (by decide))
    refine lv_iload_n hx hb dX5_line_19 rfl (lv_at hl 2 rfl) ?_
    by_cases q20_0 : what = 0
    · skip
      subst q20_0
      refine lv_tableIn (tgt := 52) hx hb dX5_line_20 (by decide) (by decide) rfl (by decide) ?_
      refine lv_aload_n hx hb dX5_line_52 rfl (lv_at hl 0 rfl) ?_
      refine va_get (D := gD G) (ci := 5) (v := .ref (h 5)) (C := RX5) (T := TX5) (N := 38) hx hb hts hiX5 hown hK hP 0 rfl rfl 5 (by decide) k19 (fun _ h9 => h9) rfl dX5_line_53 ?_
      refine lv_iload_n hx hb dX5_line_56 rfl (lv_at hl 1 rfl) ?_
      refine ialdN (f := u.2 5) (n := 120) (k := i1) hx hb hK hP 4 rfl rfl (by omega) dX5_line_57 ?_
      exact W.iret (v := (u.2 5) i1) hx hb hr (fun t ht hW => ⟨⟨(u.2 5) i1, (u, lt, sj), rfl, ⟨hRM, by rw [linA, if_pos (inR_t hi1 (by omega)), vN_n (by omega), linB, if_pos rfl]; exact hC.2.2.2.2.2.1 i1 hi1⟩, show PP G (mw G h u lt sj) t.heap by rw [ht]; exact hP⟩, hS.F ht⟩) hS.2.2 dX5_line_58
    by_cases q20_1 : what = 1
    · skip
      subst q20_1
      refine lv_tableIn (tgt := 59) hx hb dX5_line_20 (by decide) (by decide) rfl (by decide) ?_
      refine lv_aload_n hx hb dX5_line_59 rfl (lv_at hl 0 rfl) ?_
      refine va_get (D := gD G) (ci := 5) (v := .ref (h 6)) (C := RX5) (T := TX5) (N := 38) hx hb hts hiX5 hown hK hP 0 rfl rfl 6 (by decide) k22 (fun _ h9 => h9) rfl dX5_line_60 ?_
      refine lv_iload_n hx hb dX5_line_63 rfl (lv_at hl 1 rfl) ?_
      refine ialdN (f := u.2 6) (n := 120) (k := i1) hx hb hK hP 5 rfl rfl (by omega) dX5_line_64 ?_
      exact W.iret (v := (u.2 6) i1) hx hb hr (fun t ht hW => ⟨⟨(u.2 6) i1, (u, lt, sj), rfl, ⟨hRM, by rw [linA, if_pos (inR_t hi1 (by omega)), vN_n (by omega), linB, if_neg (show ¬ (1 : Int32) = (0 : Int32) by decide), if_pos rfl]; exact hC.2.2.2.2.2.2.1 i1 hi1⟩, show PP G (mw G h u lt sj) t.heap by rw [ht]; exact hP⟩, hS.F ht⟩) hS.2.2 dX5_line_65
    by_cases q20_2 : what = 2
    · skip
      subst q20_2
      refine lv_tableIn (tgt := 66) hx hb dX5_line_20 (by decide) (by decide) rfl (by decide) ?_
      refine lv_aload_n hx hb dX5_line_66 rfl (lv_at hl 0 rfl) ?_
      refine va_get (D := gD G) (ci := 5) (v := .ref (h 7)) (C := RX5) (T := TX5) (N := 38) hx hb hts hiX5 hown hK hP 0 rfl rfl 7 (by decide) k25 (fun _ h9 => h9) rfl dX5_line_67 ?_
      refine lv_iload_n hx hb dX5_line_70 rfl (lv_at hl 1 rfl) ?_
      refine ialdN (f := u.2 7) (n := 120) (k := i1) hx hb hK hP 6 rfl rfl (by omega) dX5_line_71 ?_
      exact W.iret (v := (u.2 7) i1) hx hb hr (fun t ht hW => ⟨⟨(u.2 7) i1, (u, lt, sj), rfl, ⟨hRM, by rw [linA, if_pos (inR_t hi1 (by omega)), vN_n (by omega), linB, if_neg (show ¬ (2 : Int32) = (0 : Int32) by decide), if_neg (show ¬ (2 : Int32) = (1 : Int32) by decide), if_pos rfl]; exact hC.2.2.2.2.2.2.2 i1 hi1⟩, show PP G (mw G h u lt sj) t.heap by rw [ht]; exact hP⟩, hS.F ht⟩) hS.2.2 dX5_line_72
    by_cases q20_3 : what = 3
    · skip
      subst q20_3
      refine lv_tableIn (tgt := 73) hx hb dX5_line_20 (by decide) (by decide) rfl (by decide) ?_
      refine lv_aload_n hx hb dX5_line_73 rfl (lv_at hl 0 rfl) ?_
      refine lv_iload_n hx hb dX5_line_74 rfl (lv_at hl 1 rfl) ?_
      have hP := mw_self26 hP
      have hD : va_D A (mw G h (oA u 26 (u.2 26)) lt sj) := mw_self26D hD
      refine cXi (As := [.int (nI i1)]) (rest := []) (S := oS × Int64 × (Nat → Int64)) (wa := mw G h (oA u 26 (u.2 26)) lt sj) (w1 := fun v => mw G h v.1 v.2.1 v.2.2) ⟨hx, hb, hml, hown, hts⟩ (mt_X5_lifeOfF l G h _ u lt sj (u.2 26) (sg.1 0) i1 (hnv) (by first | assumption | omega) (by first | assumption | omega) (by first | assumption | omega)) (cwV 1 hts gX5_line_X5_lifeOf rfl rfl rfl ⟨rfl, hd_X5_lifeOf⟩ ⟨Nat.le_of_ble_eq_true rfl, Nat.le_of_ble_eq_true rfl⟩) hK hN hP hD hS hA (fun _ => rfl) 0 5 rfl rfl rfl hl.1 rfl (Nat.le_of_ble_eq_true rfl) ⟨Nat.zero_le _, Nat.zero_le _⟩ dX5_line_75 (fun r75 u75 H locs hw75 hP hD hS => ?_)
      obtain ⟨g75, rfl, rfl⟩ := hw75
      have hP : PP G (mw G h (oA u 26 g75) lt sj) H := hP
      have hD : va_D A (mw G h (oA u 26 g75) lt sj) := hD
      exact W.iret (v := lifF (fun v => sdb (u.2 6) (u.2 7) (chV (u.2 1) (u.2 2) (u.2 3) (nI v)) i1) (sg.1 0)) hx hb hr (fun t ht hW => ⟨⟨lifF (fun v => sdb (u.2 6) (u.2 7) (chV (u.2 1) (u.2 2) (u.2 3) (nI v)) i1) (sg.1 0), (oA u 26 g75, lt, sj), rfl, ⟨RepM_26 _ hRM, by rw [linA, if_pos (inR_t hi1 (by omega)), vN_n (by omega), linB, if_neg (show ¬ (3 : Int32) = (0 : Int32) by decide), if_neg (show ¬ (3 : Int32) = (1 : Int32) by decide), if_neg (show ¬ (3 : Int32) = (2 : Int32) by decide), if_pos rfl]; exact lifF_c _ (fun v hv => by rw [hC.cv hic (by omega)]; exact hC.sd _ i1 hi1)⟩, show PP G (mw G h (oA u 26 g75) lt sj) t.heap by rw [ht]; exact hP⟩, hS.F ht⟩) hS.2.2 dX5_line_78
    have t20_0 : ¬ what.toInt = 0 := lv_neT q20_0 rfl
    have t20_1 : ¬ what.toInt = 1 := lv_neT q20_1 rfl
    have t20_2 : ¬ what.toInt = 2 := lv_neT q20_2 rfl
    have t20_3 : ¬ what.toInt = 3 := lv_neT q20_3 rfl
    refine lv_tableOut (tgt := 79) hx hb dX5_line_20 (by omega) (by decide) ?_
    refine lv_ldc (v := (-1000000002 : Int32)) hx hb hown (hts (.constant RX5 100 (-1000000002)) (List.mem_of_getElem? (i := 6) rfl)) dX5_line_79 ?_
    exact W.iret (v := (-1000000002 : Int32)) hx hb hr (fun t ht hW => ⟨⟨(-1000000002 : Int32), (u, lt, sj), rfl, ⟨hRM, by rw [linA, if_pos (inR_t hi1 (by omega)), vN_n (by omega), linB, if_neg q20_0, if_neg q20_1, if_neg q20_2, if_neg q20_3]⟩, show PP G (mw G h u lt sj) t.heap by rw [ht]; exact hP⟩, hS.F ht⟩) hS.2.2 dX5_line_81
  · skip
    refine lv_if_ne (tgt := 19) hx hb dX5_line_13 (by decide) (fun c9 => absurd (by decide) c9) (fun _ => ?_)
    refine lv_ldc (v := (-1000000001 : Int32)) hx hb hown (hts (.constant RX5 216 (-1000000001)) (List.mem_of_getElem? (i := 2) rfl)) dX5_line_16 ?_
    exact W.iret (v := (-1000000001 : Int32)) hx hb hr (fun t ht hW => ⟨⟨(-1000000001 : Int32), (u, lt, sj), rfl, ⟨hRM, by rw [linA, if_neg (inR_f (by omega) (isv_n (by omega) hn10))]⟩, show PP G (mw G h u lt sj) t.heap by rw [ht]; exact hP⟩, hS.F ht⟩) hS.2.2 dX5_line_18
set_option maxHeartbeats 1000000 in
set_option maxRecDepth 100000 in
theorem mt_X5_shareS (l : Launch) (G : gG) (h : Nat → Nat) (sz : Nat) (u : oS) (lt : Int64) (sj : Nat → Int64) (sg : pS) (zz : Nat → Nat → Int64) (a : Int32) (b : Int32) (nh : Nat) (hI : MIx u (sg.1 0) (sg.1 4) (sg.1 10) nh) (hIS : IS sg) (hRM : RepM u sj sg zz) : Met l yX5_share wsX5_share ({ frames := 2, cells := 0, slots := 0, locals := 46 }) (preW G (mw G h u lt sj) sz [.ref (h 0), .int a, .int b]) (va_Qi (fun (r : Int32) (v : oS × Int64 × (Nat → Int64)) => RepM v.1 v.2.2 (sg) (zz) ∧ r = shaA sg a b) (fun v t => PP G (mw G h v.1 v.2.1 v.2.2) t.heap) (va_A (mw G h u lt sj) sz)) 0 0 (va_A (mw G h u lt sj) sz) := by
  refine Met.ofW (cc := cX5_share) (maxL := 6) (ret := (some .int)) (by decide) rfl ?_
  intro p e s m args below meth c s₁ B hml hv
  obtain ⟨ha, hsz, hP, hK, hN, hD0⟩ := hv
  subst ha
  have hx := B.exec
  have hb := B.bytes
  have hr := B.returns
  have hts := atoms_spec (ws := wsX5_share) B.pre
  have hown : s.vm.findClass RX5 = some m.cls := findClass_of_methodNamed B.named
  have hlocks := B.notSynchronized
  subst hsz
  have hD := hD0.self (sz := s.heap.size)
  generalize hAe : va_A (mw G h u lt sj) s.heap.size = A at hD ⊢
  have hA : ∀ q : Nat, s.heap.size ≤ q → A q := fun q h => by rw [← hAe]; exact Or.inr h
  clear hAe hD0
  have hS : va_S A s.heap s.heap [] := va_S.rf
  have hiX5 : ∀ w ∈ wsX50, w ∈ wsX5_share := fun w h9 => List.mem_cons_of_mem _ (List.mem_append_right _ (h9))
  have k175 := hts (.fieldLink RX5 175 "WovenHistoryModel" "lines" "I") (List.mem_of_getElem? (i := 2) rfl)
  have k22 := hts (.fieldLink RX5 22 "WovenHistoryModel" "brought" "[I") (List.mem_of_getElem? (i := 3) rfl)
  have hl := lv_entry ([.ref (h 0), .int a, .int b]) (n := 6) (Nat.le_of_ble_eq_true rfl)
  rw [lg_entry_eq]
  generalize (lg_sl ([.ref (h 0), .int a, .int b]) ++ List.replicate (6 - (lg_sl ([.ref (h 0), .int a, .int b])).length) Slot.unset).toArray = ls at hl ⊢
  have hl : lv_has ls 6 [(0, .ref (h 0)), (1, .int a), (2, .int b)] := hl
  have hC := hRM.1
  have hic := hIS.ic
  have hle8 := hIS.2.2.1
  have h8e := hRM.2.1
  have hI0 := hI
  obtain ⟨hnv, hnl, hnt, hnh, hnv24, hnl120, hnt240, hnh120, hop, hopn, hparV, hsz4, himg⟩ := hI
  refine lv_aload_n hx hb dX5_share_0 rfl (lv_at hl 0 rfl) ?_
  refine lv_iload_n hx hb dX5_share_1 rfl (lv_at hl 1 rfl) ?_
  refine cRi (w := mw G h u lt sj) (As := [.int a]) (rest := []) ⟨hx, hb, hml, hown, hts⟩ (mt_X5_isVersion l G h u lt sj (sg.1 0) a (hnv) (by first | assumption | omega)) (cwV 1 hts gX5_share_X5_isVersion rfl rfl rfl ⟨rfl, hd_X5_isVersion⟩ ⟨Nat.le_of_ble_eq_true rfl, Nat.le_of_ble_eq_true rfl⟩) hK hN hP 0 5 rfl rfl rfl hl.1 rfl (Nat.le_of_ble_eq_true rfl) ⟨Nat.zero_le _, Nat.zero_le _⟩ dX5_share_2 (fun r2 hw2 => ?_)
  rcases hw2 with ⟨rfl, a1, ha1, rfl⟩ | ⟨rfl, hna1⟩
  · skip
    refine lv_if_eq (tgt := 16) hx hb dX5_share_5 (by decide) (fun c9 => absurd c9 (by decide)) (fun _ => ?_)
    refine lv_aload_n hx hb dX5_share_8 rfl (lv_at hl 0 rfl) ?_
    refine lv_iload_n hx hb dX5_share_9 rfl (lv_at hl 2 rfl) ?_
    refine cRi (w := mw G h u lt sj) (As := [.int b]) (rest := []) ⟨hx, hb, hml, hown, hts⟩ (mt_X5_isVersion l G h u lt sj (sg.1 0) b (hnv) (by first | assumption | omega)) (cwV 1 hts gX5_share_X5_isVersion rfl rfl rfl ⟨rfl, hd_X5_isVersion⟩ ⟨Nat.le_of_ble_eq_true rfl, Nat.le_of_ble_eq_true rfl⟩) hK hN hP 0 5 rfl rfl rfl hl.1 rfl (Nat.le_of_ble_eq_true rfl) ⟨Nat.zero_le _, Nat.zero_le _⟩ dX5_share_10 (fun r10 hw10 => ?_)
    rcases hw10 with ⟨rfl, b1, hb1, rfl⟩ | ⟨rfl, hnb1⟩
    · skip
      refine lv_if_ne (tgt := 19) hx hb dX5_share_13 (by decide) (fun _ => ?_) (fun c9 => absurd c9 (by decide))
      refine lv_aload_n hx hb dX5_share_19 rfl (lv_at hl 0 rfl) ?_
      refine lv_iload_n hx hb dX5_share_20 rfl (lv_at hl 1 rfl) ?_
      have hP := mw_self26 hP
      have hD : va_D A (mw G h (oA u 26 (u.2 26)) lt sj) := mw_self26D hD
      refine cXi (As := [.int (nI a1)]) (rest := []) (S := oS × Int64 × (Nat → Int64)) (wa := mw G h (oA u 26 (u.2 26)) lt sj) (w1 := fun v => mw G h v.1 v.2.1 v.2.2) ⟨hx, hb, hml, hown, hts⟩ (mt_X5_changesOf l G h _ u lt sj (u.2 26) a1 (by first | assumption | omega) (hparV.le (by omega))) (cwV 1 hts gX5_share_X5_changesOf rfl rfl rfl ⟨rfl, hd_X5_changesOf⟩ ⟨Nat.le_of_ble_eq_true rfl, Nat.le_of_ble_eq_true rfl⟩) hK hN hP hD hS hA (fun _ => rfl) 0 5 rfl rfl rfl hl.1 rfl (Nat.le_of_ble_eq_true rfl) ⟨Nat.zero_le _, Nat.zero_le _⟩ dX5_share_21 (fun r21 u21 H locs hw21 hP hD hS => ?_)
      obtain ⟨g21, rfl, rfl⟩ := hw21
      have hP : PP G (mw G h (oA u 26 g21) lt sj) H := hP
      have hD : va_D A (mw G h (oA u 26 g21) lt sj) := hD
      refine lv_istore_n (lv' := [(3, .int (chV (u.2 1) (u.2 2) (u.2 3) (nI a1))), (0, .ref (h 0)), (1, .int (nI a1)), (2, .int (nI b1))]) hx hb dX5_share_24 rfl hl (by decide) rfl (fun ls hl => ?_)
      refine lv_iconst (v := nI 0) hx hb dX5_share_25 (by decide) ?_
      refine lv_istore (lv' := [(4, .int (nI 0)), (3, .int (chV (u.2 1) (u.2 2) (u.2 3) (nI a1))), (0, .ref (h 0)), (1, .int (nI a1)), (2, .int (nI b1))]) hx hb dX5_share_26 hl (by decide) rfl (fun ls hl => ?_)
      refine lv_iconst (v := nI 0) hx hb dX5_share_28 (by decide) ?_
      refine lv_istore (lv' := [(5, .int (nI 0)), (4, .int (nI 0)), (3, .int (chV (u.2 1) (u.2 2) (u.2 3) (nI a1))), (0, .ref (h 0)), (1, .int (nI a1)), (2, .int (nI b1))]) hx hb dX5_share_29 hl (by decide) rfl (fun ls hl => ?_)
      have LP31 : ∀ (n31m : Nat), ∀ (k : Nat) (j : Nat) (hk : k ≤ sg.1 4) (hj2 : j ≤ k) (hj : j = cnt (fun i => decide (u.2 6 i = nI b1) && sdb (u.2 6) (u.2 7) (chV (u.2 1) (u.2 2) (u.2 3) (nI a1)) i) k), (sg.1 4 - k < n31m) → ∀ (H : Heap) (locs : List Loc) (ls : Array Slot), PP G (mw G h (oA u 26 g21) lt sj) H → va_D A (mw G h (oA u 26 g21) lt sj) → va_S A s.heap H locs → lv_has ls 6 [(0, .ref (h 0)), (2, .int (nI b1)), (3, .int (chV (u.2 1) (u.2 2) (u.2 3) (nI a1))), (4, .int (nI j)), (5, .int (nI k))] → W p l e (headSpec wsX5_share ({ frames := 2, cells := 0, slots := 0, locals := 46 })).room s m ([.ref (h 0), .int (nI a1), .int (nI b1)] : List Value).toArray below meth c H locs 0 0 (MQ below (va_Qi (fun (r : Int32) (v : oS × Int64 × (Nat → Int64)) => RepM v.1 v.2.2 (sg) (zz) ∧ r = shaA sg (nI a1) (nI b1)) (fun v t => PP G (mw G h v.1 v.2.1 v.2.2) t.heap) A) ([.ref (h 0), .int (nI a1), .int (nI b1)] : List Value).toArray s 0 0 A) (F0 m 31 ls []) := by
        intro n31m
        induction n31m with
        | zero => intro k j hk hj2 hj hmu H locs ls hP hD hS hl; exact absurd hmu (Nat.not_lt_zero _)
        | succ n31m ih31 =>
          intro k j hk hj2 hj hmu H locs ls hP hD hS hl
          refine lv_iload hx hb dX5_share_31 (lv_at hl 4 rfl) ?_
          refine lv_aload_n hx hb dX5_share_33 rfl (lv_at hl 0 rfl) ?_
          refine va_get (D := gD G) (ci := 5) (v := .int (u.1 4)) (C := RX5) (T := TX5) (N := 38) hx hb hts hiX5 hown hK hP 0 rfl rfl 4 (by decide) k175 (fun _ h9 => h9) rfl dX5_share_34 ?_
          refine topE hnl ?_
          refine lv_icmp_ge (tgt := 77) hx hb dX5_share_37 (by decide) (fun c37 => ?_) (fun c37 => ?_)
          · skip
            have n37 : (sg.1 4) ≤ k := (nI_leI (a := sg.1 4) (b := k) (by omega) (by omega)).mp c37
            refine lv_iload hx hb dX5_share_77 (lv_at hl 3 rfl) ?_
            exact W.iret (v := nI j) hx hb hr (fun t ht hW => ⟨⟨nI j, (oA u 26 g21, lt, sj), rfl, ⟨RepM_26 _ hRM, by rw [shaA, if_pos ⟨inR_t ha1 (by omega), inR_t hb1 (by omega)⟩, vN_n (by omega), hj, show k = sg.1 4 by omega]; exact congrArg nI (cnt_c _ (fun k hk => by rw [hC.2.2.2.2.2.2.1 k hk, hC.cv hic (by omega), hC.sd _ k hk]))⟩, show PP G (mw G h (oA u 26 g21) lt sj) t.heap by rw [ht]; exact hP⟩, hS.F ht⟩) hS.2.2 dX5_share_79
          · skip
            have n37 : ¬ ((sg.1 4) ≤ k) := fun q9 => c37 ((nI_leI (a := sg.1 4) (b := k) (by omega) (by omega)).mpr q9)
            refine lv_iload hx hb dX5_share_40 (lv_at hl 3 rfl) ?_
            refine lv_aload_n hx hb dX5_share_42 rfl (lv_at hl 0 rfl) ?_
            refine lv_iload hx hb dX5_share_43 (lv_at hl 4 rfl) ?_
            refine lv_iload_n hx hb dX5_share_45 rfl (lv_at hl 2 rfl) ?_
            refine cRi (w := mw G h (oA u 26 g21) lt sj) (As := [.int (nI k), .int (chV (u.2 1) (u.2 2) (u.2 3) (nI a1))]) (rest := [.int (nI j)]) ⟨hx, hb, hml, hown, hts⟩ (mt_X5_stands l G h (oA u 26 g21) lt sj k (chV (u.2 1) (u.2 2) (u.2 3) (nI a1)) (by first | assumption | omega)) (cwV 2 hts gX5_share_X5_stands rfl rfl rfl ⟨rfl, hd_X5_stands⟩ ⟨Nat.le_of_ble_eq_true rfl, Nat.le_of_ble_eq_true rfl⟩) hK hN hP 0 5 rfl rfl rfl hl.1 rfl (Nat.le_of_ble_eq_true rfl) ⟨Nat.zero_le _, Nat.zero_le _⟩ dX5_share_46 (fun r46 hw46 => ?_)
            rcases hw46 with ⟨rfl, hy46⟩ | ⟨rfl, hn46⟩
            · skip
              refine lv_if_eq (tgt := 67) hx hb dX5_share_49 (by decide) (fun c9 => absurd c9 (by decide)) (fun _ => ?_)
              refine lv_aload_n hx hb dX5_share_52 rfl (lv_at hl 0 rfl) ?_
              refine va_get (D := gD G) (ci := 5) (v := .ref (h 6)) (C := RX5) (T := TX5) (N := 38) hx hb hts hiX5 hown hK hP 0 rfl rfl 6 (by decide) k22 (fun _ h9 => h9) rfl dX5_share_53 ?_
              refine lv_iload hx hb dX5_share_56 (lv_at hl 4 rfl) ?_
              refine ialdN (f := u.2 6) (n := 120) (k := k) hx hb hK hP 5 rfl rfl (by omega) dX5_share_58 ?_
              refine lv_iload_n hx hb dX5_share_59 rfl (lv_at hl 1 rfl) ?_
              refine lv_icmp_ne (tgt := 67) hx hb dX5_share_60 (by decide) (fun c60 => ?_) (fun c60 => ?_)
              · skip
                refine lv_iconst (v := nI 0) hx hb dX5_share_67 (by decide) ?_
                refine lv_iadd hx hb dX5_share_68 ?_
                refine topE (y := nI (j + 0)) (nI_add j 0) ?_
                refine lv_istore (lv' := [(4, .int (nI (j + 0))), (0, .ref (h 0)), (2, .int (nI b1)), (3, .int (chV (u.2 1) (u.2 2) (u.2 3) (nI a1))), (5, .int (nI k))]) hx hb dX5_share_69 hl (by decide) rfl (fun ls hl => ?_)
                refine lv_iinc (v := nI (k + 1)) (lv' := [(5, .int (nI (k + 1))), (4, .int (nI (j + 0))), (0, .ref (h 0)), (2, .int (nI b1)), (3, .int (chV (u.2 1) (u.2 2) (u.2 3) (nI a1)))]) hx hb dX5_share_71 hl (k := 4) rfl (nI_1 k) (by decide) rfl (fun ls hl => ?_)
                refine lv_goto (tgt := 31) hx hb dX5_share_74 (by decide) ?_
                exact ih31 (k + 1) (j + 0) (by first | assumption | omega) (by first | assumption | omega) (by first | rfl | omega | (rw [cnt_t (and_tt (decide_eq_true (by assumption)) (by assumption))]; omega) | (rw [cnt_f (and_f2 (by assumption))]; omega) | (rw [cnt_f (and_f1 (decide_eq_false (by assumption)))]; omega)) (by omega) _ _ ls hP hD hS (lv_sub hl [2, 3, 4, 1, 0] rfl)
              · skip
                refine lv_iconst (v := nI 1) hx hb dX5_share_63 (by decide) ?_
                refine lv_goto (tgt := 68) hx hb dX5_share_64 (by decide) ?_
                refine lv_iadd hx hb dX5_share_68 ?_
                refine topE (y := nI (j + 1)) (nI_add j 1) ?_
                refine lv_istore (lv' := [(4, .int (nI (j + 1))), (0, .ref (h 0)), (2, .int (nI b1)), (3, .int (chV (u.2 1) (u.2 2) (u.2 3) (nI a1))), (5, .int (nI k))]) hx hb dX5_share_69 hl (by decide) rfl (fun ls hl => ?_)
                refine lv_iinc (v := nI (k + 1)) (lv' := [(5, .int (nI (k + 1))), (4, .int (nI (j + 1))), (0, .ref (h 0)), (2, .int (nI b1)), (3, .int (chV (u.2 1) (u.2 2) (u.2 3) (nI a1)))]) hx hb dX5_share_71 hl (k := 4) rfl (nI_1 k) (by decide) rfl (fun ls hl => ?_)
                refine lv_goto (tgt := 31) hx hb dX5_share_74 (by decide) ?_
                exact ih31 (k + 1) (j + 1) (by first | assumption | omega) (by first | assumption | omega) (by first | rfl | omega | (rw [cnt_t (and_tt (decide_eq_true (by assumption)) (by assumption))]; omega) | (rw [cnt_f (and_f2 (by assumption))]; omega) | (rw [cnt_f (and_f1 (decide_eq_false (by assumption)))]; omega)) (by omega) _ _ ls hP hD hS (lv_sub hl [2, 3, 4, 1, 0] rfl)
            · skip
              refine lv_if_eq (tgt := 67) hx hb dX5_share_49 (by decide) (fun _ => ?_) (fun c9 => absurd (by decide) c9)
              refine lv_iconst (v := nI 0) hx hb dX5_share_67 (by decide) ?_
              refine lv_iadd hx hb dX5_share_68 ?_
              refine topE (y := nI (j + 0)) (nI_add j 0) ?_
              refine lv_istore (lv' := [(4, .int (nI (j + 0))), (0, .ref (h 0)), (2, .int (nI b1)), (3, .int (chV (u.2 1) (u.2 2) (u.2 3) (nI a1))), (5, .int (nI k))]) hx hb dX5_share_69 hl (by decide) rfl (fun ls hl => ?_)
              refine lv_iinc (v := nI (k + 1)) (lv' := [(5, .int (nI (k + 1))), (4, .int (nI (j + 0))), (0, .ref (h 0)), (2, .int (nI b1)), (3, .int (chV (u.2 1) (u.2 2) (u.2 3) (nI a1)))]) hx hb dX5_share_71 hl (k := 4) rfl (nI_1 k) (by decide) rfl (fun ls hl => ?_)
              refine lv_goto (tgt := 31) hx hb dX5_share_74 (by decide) ?_
              exact ih31 (k + 1) (j + 0) (by first | assumption | omega) (by first | assumption | omega) (by first | rfl | omega | (rw [cnt_t (and_tt (decide_eq_true (by assumption)) (by assumption))]; omega) | (rw [cnt_f (and_f2 (by assumption))]; omega) | (rw [cnt_f (and_f1 (decide_eq_false (by assumption)))]; omega)) (by omega) _ _ ls hP hD hS (lv_sub hl [2, 3, 4, 1, 0] rfl)
      exact LP31 (sg.1 4 - 0 + 1) 0 0 (by first | assumption | omega) (by first | assumption | omega) (by first | rfl | omega | (rw [cnt_t (and_tt (decide_eq_true (by assumption)) (by assumption))]; omega) | (rw [cnt_f (and_f2 (by assumption))]; omega) | (rw [cnt_f (and_f1 (decide_eq_false (by assumption)))]; omega)) (Nat.lt_succ_self _) _ _ ls hP hD hS (lv_sub hl [3, 5, 2, 1, 0] rfl)
    · skip
      refine lv_if_ne (tgt := 19) hx hb dX5_share_13 (by decide) (fun c9 => absurd (by decide) c9) (fun _ => ?_)
      refine lv_ldc (v := (-1000000001 : Int32)) hx hb hown (hts (.constant RX5 216 (-1000000001)) (List.mem_of_getElem? (i := 1) rfl)) dX5_share_16 ?_
      exact W.iret (v := (-1000000001 : Int32)) hx hb hr (fun t ht hW => ⟨⟨(-1000000001 : Int32), (u, lt, sj), rfl, ⟨hRM, by rw [shaA, if_neg (fun q => by first | exact inR_f (by omega) hna1 q.1 | exact inR_f (by omega) hnb1 q.2)]⟩, show PP G (mw G h u lt sj) t.heap by rw [ht]; exact hP⟩, hS.F ht⟩) hS.2.2 dX5_share_18
  · skip
    refine lv_if_eq (tgt := 16) hx hb dX5_share_5 (by decide) (fun _ => ?_) (fun c9 => absurd (by decide) c9)
    refine lv_ldc (v := (-1000000001 : Int32)) hx hb hown (hts (.constant RX5 216 (-1000000001)) (List.mem_of_getElem? (i := 1) rfl)) dX5_share_16 ?_
    exact W.iret (v := (-1000000001 : Int32)) hx hb hr (fun t ht hW => ⟨⟨(-1000000001 : Int32), (u, lt, sj), rfl, ⟨hRM, by rw [shaA, if_neg (fun q => by first | exact inR_f (by omega) hna1 q.1 | exact inR_f (by omega) hnb1 q.2)]⟩, show PP G (mw G h u lt sj) t.heap by rw [ht]; exact hP⟩, hS.F ht⟩) hS.2.2 dX5_share_18
set_option maxHeartbeats 1000000 in
set_option maxRecDepth 100000 in
theorem mt_X5_alikeS (l : Launch) (G : gG) (h : Nat → Nat) (sz : Nat) (u : oS) (lt : Int64) (sj : Nat → Int64) (sg : pS) (zz : Nat → Nat → Int64) (a : Int32) (b : Int32) (what : Int32) (nh : Nat) (hI : MIx u (sg.1 0) (sg.1 4) (sg.1 10) nh) (hIS : IS sg) (hRM : RepM u sj sg zz) : Met l yX5_alike wsX5_alike ({ frames := 4, cells := 0, slots := 0, locals := 92 }) (preW G (mw G h u lt sj) sz [.ref (h 0), .int a, .int b, .int what]) (va_Qi (fun (r : Int32) (v : oS × Int64 × (Nat → Int64)) => RepM v.1 v.2.2 (sg) (zz) ∧ r = aliA sg a b what) (fun v t => PP G (mw G h v.1 v.2.1 v.2.2) t.heap) (va_A (mw G h u lt sj) sz)) 0 0 (va_A (mw G h u lt sj) sz) := by
  refine Met.ofW (cc := cX5_alike) (maxL := 6) (ret := (some .int)) (by decide) rfl ?_
  intro p e s m args below meth c s₁ B hml hv
  obtain ⟨ha, hsz, hP, hK, hN, hD0⟩ := hv
  subst ha
  have hx := B.exec
  have hb := B.bytes
  have hr := B.returns
  have hts := atoms_spec (ws := wsX5_alike) B.pre
  have hown : s.vm.findClass RX5 = some m.cls := findClass_of_methodNamed B.named
  have hlocks := B.notSynchronized
  subst hsz
  have hD := hD0.self (sz := s.heap.size)
  generalize hAe : va_A (mw G h u lt sj) s.heap.size = A at hD ⊢
  have hA : ∀ q : Nat, s.heap.size ≤ q → A q := fun q h => by rw [← hAe]; exact Or.inr h
  clear hAe hD0
  have hS : va_S A s.heap s.heap [] := va_S.rf
  have hl := lv_entry ([.ref (h 0), .int a, .int b, .int what]) (n := 6) (Nat.le_of_ble_eq_true rfl)
  rw [lg_entry_eq]
  generalize (lg_sl ([.ref (h 0), .int a, .int b, .int what]) ++ List.replicate (6 - (lg_sl ([.ref (h 0), .int a, .int b, .int what])).length) Slot.unset).toArray = ls at hl ⊢
  have hl : lv_has ls 6 [(0, .ref (h 0)), (1, .int a), (2, .int b), (3, .int what)] := hl
  have hC := hRM.1
  have hic := hIS.ic
  have hle8 := hIS.2.2.1
  have h8e := hRM.2.1
  have hI0 := hI
  obtain ⟨hnv, hnl, hnt, hnh, hnv24, hnl120, hnt240, hnh120, hop, hopn, hparV, hsz4, himg⟩ := hI
  refine lv_aload_n hx hb dX5_alike_0 rfl (lv_at hl 0 rfl) ?_
  refine lv_iload_n hx hb dX5_alike_1 rfl (lv_at hl 1 rfl) ?_
  refine cRi (w := mw G h u lt sj) (As := [.int a]) (rest := []) ⟨hx, hb, hml, hown, hts⟩ (mt_X5_isVersion l G h u lt sj (sg.1 0) a (hnv) (by first | assumption | omega)) (cwV 1 hts gX5_alike_X5_isVersion rfl rfl rfl ⟨rfl, hd_X5_isVersion⟩ ⟨Nat.le_of_ble_eq_true rfl, Nat.le_of_ble_eq_true rfl⟩) hK hN hP 0 5 rfl rfl rfl hl.1 rfl (Nat.le_of_ble_eq_true rfl) ⟨Nat.zero_le _, Nat.zero_le _⟩ dX5_alike_2 (fun r2 hw2 => ?_)
  rcases hw2 with ⟨rfl, a1, ha1, rfl⟩ | ⟨rfl, hna1⟩
  · skip
    refine lv_if_eq (tgt := 21) hx hb dX5_alike_5 (by decide) (fun c9 => absurd c9 (by decide)) (fun _ => ?_)
    refine lv_aload_n hx hb dX5_alike_8 rfl (lv_at hl 0 rfl) ?_
    refine lv_iload_n hx hb dX5_alike_9 rfl (lv_at hl 2 rfl) ?_
    refine cRi (w := mw G h u lt sj) (As := [.int b]) (rest := []) ⟨hx, hb, hml, hown, hts⟩ (mt_X5_isVersion l G h u lt sj (sg.1 0) b (hnv) (by first | assumption | omega)) (cwV 1 hts gX5_alike_X5_isVersion rfl rfl rfl ⟨rfl, hd_X5_isVersion⟩ ⟨Nat.le_of_ble_eq_true rfl, Nat.le_of_ble_eq_true rfl⟩) hK hN hP 0 5 rfl rfl rfl hl.1 rfl (Nat.le_of_ble_eq_true rfl) ⟨Nat.zero_le _, Nat.zero_le _⟩ dX5_alike_10 (fun r10 hw10 => ?_)
    rcases hw10 with ⟨rfl, b1, hb1, rfl⟩ | ⟨rfl, hnb1⟩
    · skip
      refine lv_if_eq (tgt := 21) hx hb dX5_alike_13 (by decide) (fun c9 => absurd c9 (by decide)) (fun _ => ?_)
      refine lv_iload_n hx hb dX5_alike_16 rfl (lv_at hl 1 rfl) ?_
      refine lv_iload_n hx hb dX5_alike_17 rfl (lv_at hl 2 rfl) ?_
      refine lv_icmp_ne (tgt := 24) hx hb dX5_alike_18 (by decide) (fun c18 => ?_) (fun c18 => ?_)
      · skip
        have n18 : ¬ (a1 = b1) := fun q9 => c18 ((nI_eq (a := a1) (b := b1) (by omega) (by omega)).mpr q9)
        refine lv_aload_n hx hb dX5_alike_24 rfl (lv_at hl 0 rfl) ?_
        refine lv_iload_n hx hb dX5_alike_25 rfl (lv_at hl 1 rfl) ?_
        have hP := mw_self26 hP
        have hD : va_D A (mw G h (oA u 26 (u.2 26)) lt sj) := mw_self26D hD
        refine cXi (As := [.int (nI a1)]) (rest := []) (S := oS × Int64 × (Nat → Int64)) (wa := mw G h (oA u 26 (u.2 26)) lt sj) (w1 := fun v => mw G h v.1 v.2.1 v.2.2) ⟨hx, hb, hml, hown, hts⟩ (mt_X5_changesOf l G h _ u lt sj (u.2 26) a1 (by first | assumption | omega) (hparV.le (by omega))) (cwV 1 hts gX5_alike_X5_changesOf rfl rfl rfl ⟨rfl, hd_X5_changesOf⟩ ⟨Nat.le_of_ble_eq_true rfl, Nat.le_of_ble_eq_true rfl⟩) hK hN hP hD hS hA (fun _ => rfl) 0 5 rfl rfl rfl hl.1 rfl (Nat.le_of_ble_eq_true rfl) ⟨Nat.zero_le _, Nat.zero_le _⟩ dX5_alike_26 (fun r26 u26 H locs hw26 hP hD hS => ?_)
        obtain ⟨g26, rfl, rfl⟩ := hw26
        have hP : PP G (mw G h (oA u 26 g26) lt sj) H := hP
        have hD : va_D A (mw G h (oA u 26 g26) lt sj) := hD
        refine lv_istore (lv' := [(4, .int (chV (u.2 1) (u.2 2) (u.2 3) (nI a1))), (0, .ref (h 0)), (1, .int (nI a1)), (2, .int (nI b1)), (3, .int what)]) hx hb dX5_alike_29 hl (by decide) rfl (fun ls hl => ?_)
        refine lv_aload_n hx hb dX5_alike_31 rfl (lv_at hl 1 rfl) ?_
        refine lv_iload_n hx hb dX5_alike_32 rfl (lv_at hl 3 rfl) ?_
        refine cXi (As := [.int (nI b1)]) (rest := []) (S := oS × Int64 × (Nat → Int64)) (wa := mw G h (oA u 26 g26) lt sj) (w1 := fun v => mw G h v.1 v.2.1 v.2.2) ⟨hx, hb, hml, hown, hts⟩ (mt_X5_changesOf l G h _ u lt sj g26 b1 (by first | assumption | omega) (hparV.le (by omega))) (cwV 1 hts gX5_alike_X5_changesOf rfl rfl rfl ⟨rfl, hd_X5_changesOf⟩ ⟨Nat.le_of_ble_eq_true rfl, Nat.le_of_ble_eq_true rfl⟩) hK hN hP hD hS hA (fun _ => rfl) 0 5 rfl rfl rfl hl.1 rfl (Nat.le_of_ble_eq_true rfl) ⟨Nat.zero_le _, Nat.zero_le _⟩ dX5_alike_33 (fun r33 u33 H locs hw33 hP hD hS => ?_)
        obtain ⟨g33, rfl, rfl⟩ := hw33
        have hP : PP G (mw G h (oA u 26 g33) lt sj) H := hP
        have hD : va_D A (mw G h (oA u 26 g33) lt sj) := hD
        refine lv_istore (lv' := [(5, .int (chV (u.2 1) (u.2 2) (u.2 3) (nI b1))), (4, .int (chV (u.2 1) (u.2 2) (u.2 3) (nI a1))), (0, .ref (h 0)), (1, .int (nI a1)), (2, .int (nI b1)), (3, .int what)]) hx hb dX5_alike_36 hl (by decide) rfl (fun ls hl => ?_)
        refine lv_iload_n hx hb dX5_alike_38 rfl (lv_at hl 5 rfl) ?_
        by_cases q39_0 : what = 0
        · skip
          subst q39_0
          refine lv_tableIn (tgt := 68) hx hb dX5_alike_39 (by decide) (by decide) rfl (by decide) ?_
          refine lv_aload_n hx hb dX5_alike_68 rfl (lv_at hl 2 rfl) ?_
          refine lv_iload hx hb dX5_alike_69 (lv_at hl 1 rfl) ?_
          refine lv_iload hx hb dX5_alike_71 (lv_at hl 0 rfl) ?_
          refine cRi (w := mw G h (oA u 26 g33) lt sj) (As := [.int (chV (u.2 1) (u.2 2) (u.2 3) (nI a1)), .int (chV (u.2 1) (u.2 2) (u.2 3) (nI b1))]) (rest := []) ⟨hx, hb, hml, hown, hts⟩ (mt_X5_bothOf l G h (oA u 26 g33) lt sj (sg.1 4) (chV (u.2 1) (u.2 2) (u.2 3) (nI a1)) (chV (u.2 1) (u.2 2) (u.2 3) (nI b1)) (hnl) (by first | assumption | omega)) (cwV 2 hts gX5_alike_X5_bothOf rfl rfl rfl ⟨rfl, hd_X5_bothOf⟩ ⟨Nat.le_of_ble_eq_true rfl, Nat.le_of_ble_eq_true rfl⟩) hK hN hP 0 5 rfl rfl rfl hl.1 rfl (Nat.le_of_ble_eq_true rfl) ⟨Nat.zero_le _, Nat.zero_le _⟩ dX5_alike_73 (fun r73 hw73 => ?_)
          obtain rfl := hw73
          have hc73 := cnt_le (fun i => sdb ((oA u 26 g33).2 6) ((oA u 26 g33).2 7) (chV (u.2 1) (u.2 2) (u.2 3) (nI a1)) i && sdb ((oA u 26 g33).2 6) ((oA u 26 g33).2 7) (chV (u.2 1) (u.2 2) (u.2 3) (nI b1)) i) (sg.1 4)
          exact W.iret (v := nI (cnt (fun i => sdb ((oA u 26 g33).2 6) ((oA u 26 g33).2 7) (chV (u.2 1) (u.2 2) (u.2 3) (nI a1)) i && sdb ((oA u 26 g33).2 6) ((oA u 26 g33).2 7) (chV (u.2 1) (u.2 2) (u.2 3) (nI b1)) i) (sg.1 4))) hx hb hr (fun t ht hW => ⟨⟨nI (cnt (fun i => sdb ((oA u 26 g33).2 6) ((oA u 26 g33).2 7) (chV (u.2 1) (u.2 2) (u.2 3) (nI a1)) i && sdb ((oA u 26 g33).2 6) ((oA u 26 g33).2 7) (chV (u.2 1) (u.2 2) (u.2 3) (nI b1)) i) (sg.1 4)), (oA u 26 g33, lt, sj), rfl, ⟨RepM_26 _ hRM, by rw [aliA, if_pos (two_t hnv24 ha1 hb1 c18), vN_n (j := a1) (by omega), vN_n (j := b1) (by omega), aliB, if_pos rfl]; exact by rw [(hC.cv (i := a1) hic (by omega)), (hC.cv (i := b1) hic (by omega))]; exact congrArg nI (cnt_c _ (fun k hk => cg2 (fun a b => a && b) (hC.sd _ k hk) (hC.sd _ k hk)))⟩, show PP G (mw G h (oA u 26 g33) lt sj) t.heap by rw [ht]; exact hP⟩, hS.F ht⟩) hS.2.2 dX5_alike_76
        by_cases q39_1 : what = 1
        · skip
          subst q39_1
          refine lv_tableIn (tgt := 77) hx hb dX5_alike_39 (by decide) (by decide) rfl (by decide) ?_
          refine lv_aload_n hx hb dX5_alike_77 rfl (lv_at hl 2 rfl) ?_
          refine lv_iload hx hb dX5_alike_78 (lv_at hl 1 rfl) ?_
          refine cRi (w := mw G h (oA u 26 g33) lt sj) (As := [.int (chV (u.2 1) (u.2 2) (u.2 3) (nI a1))]) (rest := []) ⟨hx, hb, hml, hown, hts⟩ (mt_X5_manyOf l G h (oA u 26 g33) lt sj (sg.1 4) (chV (u.2 1) (u.2 2) (u.2 3) (nI a1)) (hnl) (by first | assumption | omega)) (cwV 1 hts gX5_alike_X5_manyOf rfl rfl rfl ⟨rfl, hd_X5_manyOf⟩ ⟨Nat.le_of_ble_eq_true rfl, Nat.le_of_ble_eq_true rfl⟩) hK hN hP 0 5 rfl rfl rfl hl.1 rfl (Nat.le_of_ble_eq_true rfl) ⟨Nat.zero_le _, Nat.zero_le _⟩ dX5_alike_80 (fun r80 hw80 => ?_)
          obtain rfl := hw80
          have hc80 := cnt_le (sdb ((oA u 26 g33).2 6) ((oA u 26 g33).2 7) (chV (u.2 1) (u.2 2) (u.2 3) (nI a1))) (sg.1 4)
          refine lv_aload_n hx hb dX5_alike_83 rfl (lv_at hl 2 rfl) ?_
          refine lv_iload hx hb dX5_alike_84 (lv_at hl 1 rfl) ?_
          refine lv_iload hx hb dX5_alike_86 (lv_at hl 0 rfl) ?_
          refine cRi (w := mw G h (oA u 26 g33) lt sj) (As := [.int (chV (u.2 1) (u.2 2) (u.2 3) (nI a1)), .int (chV (u.2 1) (u.2 2) (u.2 3) (nI b1))]) (rest := [.int (nI (cnt (sdb ((oA u 26 g33).2 6) ((oA u 26 g33).2 7) (chV (u.2 1) (u.2 2) (u.2 3) (nI a1))) (sg.1 4)))]) ⟨hx, hb, hml, hown, hts⟩ (mt_X5_bothOf l G h (oA u 26 g33) lt sj (sg.1 4) (chV (u.2 1) (u.2 2) (u.2 3) (nI a1)) (chV (u.2 1) (u.2 2) (u.2 3) (nI b1)) (hnl) (by first | assumption | omega)) (cwV 2 hts gX5_alike_X5_bothOf rfl rfl rfl ⟨rfl, hd_X5_bothOf⟩ ⟨Nat.le_of_ble_eq_true rfl, Nat.le_of_ble_eq_true rfl⟩) hK hN hP 0 5 rfl rfl rfl hl.1 rfl (Nat.le_of_ble_eq_true rfl) ⟨Nat.zero_le _, Nat.zero_le _⟩ dX5_alike_88 (fun r88 hw88 => ?_)
          obtain rfl := hw88
          have hc88 := cnt_le (fun i => sdb ((oA u 26 g33).2 6) ((oA u 26 g33).2 7) (chV (u.2 1) (u.2 2) (u.2 3) (nI a1)) i && sdb ((oA u 26 g33).2 6) ((oA u 26 g33).2 7) (chV (u.2 1) (u.2 2) (u.2 3) (nI b1)) i) (sg.1 4)
          refine lv_isub hx hb dX5_alike_91 ?_
          exact W.iret (v := (nI (cnt (sdb ((oA u 26 g33).2 6) ((oA u 26 g33).2 7) (chV (u.2 1) (u.2 2) (u.2 3) (nI a1))) (sg.1 4))) - (nI (cnt (fun i => sdb ((oA u 26 g33).2 6) ((oA u 26 g33).2 7) (chV (u.2 1) (u.2 2) (u.2 3) (nI a1)) i && sdb ((oA u 26 g33).2 6) ((oA u 26 g33).2 7) (chV (u.2 1) (u.2 2) (u.2 3) (nI b1)) i) (sg.1 4)))) hx hb hr (fun t ht hW => ⟨⟨(nI (cnt (sdb ((oA u 26 g33).2 6) ((oA u 26 g33).2 7) (chV (u.2 1) (u.2 2) (u.2 3) (nI a1))) (sg.1 4))) - (nI (cnt (fun i => sdb ((oA u 26 g33).2 6) ((oA u 26 g33).2 7) (chV (u.2 1) (u.2 2) (u.2 3) (nI a1)) i && sdb ((oA u 26 g33).2 6) ((oA u 26 g33).2 7) (chV (u.2 1) (u.2 2) (u.2 3) (nI b1)) i) (sg.1 4))), (oA u 26 g33, lt, sj), rfl, ⟨RepM_26 _ hRM, by rw [aliA, if_pos (two_t hnv24 ha1 hb1 c18), vN_n (j := a1) (by omega), vN_n (j := b1) (by omega), aliB, if_neg (show ¬ (1 : Int32) = (0 : Int32) by decide), if_pos rfl]; exact by rw [(hC.cv (i := a1) hic (by omega)), (hC.cv (i := b1) hic (by omega))]; exact cg2 (fun a b => nI a - nI b) (hC.nl _) (cnt_c _ (fun k hk => cg2 (fun a b => a && b) (hC.sd _ k hk) (hC.sd _ k hk)))⟩, show PP G (mw G h (oA u 26 g33) lt sj) t.heap by rw [ht]; exact hP⟩, hS.F ht⟩) hS.2.2 dX5_alike_92
        by_cases q39_2 : what = 2
        · skip
          subst q39_2
          refine lv_tableIn (tgt := 93) hx hb dX5_alike_39 (by decide) (by decide) rfl (by decide) ?_
          refine lv_aload_n hx hb dX5_alike_93 rfl (lv_at hl 2 rfl) ?_
          refine lv_iload hx hb dX5_alike_94 (lv_at hl 0 rfl) ?_
          refine cRi (w := mw G h (oA u 26 g33) lt sj) (As := [.int (chV (u.2 1) (u.2 2) (u.2 3) (nI b1))]) (rest := []) ⟨hx, hb, hml, hown, hts⟩ (mt_X5_manyOf l G h (oA u 26 g33) lt sj (sg.1 4) (chV (u.2 1) (u.2 2) (u.2 3) (nI b1)) (hnl) (by first | assumption | omega)) (cwV 1 hts gX5_alike_X5_manyOf rfl rfl rfl ⟨rfl, hd_X5_manyOf⟩ ⟨Nat.le_of_ble_eq_true rfl, Nat.le_of_ble_eq_true rfl⟩) hK hN hP 0 5 rfl rfl rfl hl.1 rfl (Nat.le_of_ble_eq_true rfl) ⟨Nat.zero_le _, Nat.zero_le _⟩ dX5_alike_96 (fun r96 hw96 => ?_)
          obtain rfl := hw96
          have hc96 := cnt_le (sdb ((oA u 26 g33).2 6) ((oA u 26 g33).2 7) (chV (u.2 1) (u.2 2) (u.2 3) (nI b1))) (sg.1 4)
          refine lv_aload_n hx hb dX5_alike_99 rfl (lv_at hl 2 rfl) ?_
          refine lv_iload hx hb dX5_alike_100 (lv_at hl 1 rfl) ?_
          refine lv_iload hx hb dX5_alike_102 (lv_at hl 0 rfl) ?_
          refine cRi (w := mw G h (oA u 26 g33) lt sj) (As := [.int (chV (u.2 1) (u.2 2) (u.2 3) (nI a1)), .int (chV (u.2 1) (u.2 2) (u.2 3) (nI b1))]) (rest := [.int (nI (cnt (sdb ((oA u 26 g33).2 6) ((oA u 26 g33).2 7) (chV (u.2 1) (u.2 2) (u.2 3) (nI b1))) (sg.1 4)))]) ⟨hx, hb, hml, hown, hts⟩ (mt_X5_bothOf l G h (oA u 26 g33) lt sj (sg.1 4) (chV (u.2 1) (u.2 2) (u.2 3) (nI a1)) (chV (u.2 1) (u.2 2) (u.2 3) (nI b1)) (hnl) (by first | assumption | omega)) (cwV 2 hts gX5_alike_X5_bothOf rfl rfl rfl ⟨rfl, hd_X5_bothOf⟩ ⟨Nat.le_of_ble_eq_true rfl, Nat.le_of_ble_eq_true rfl⟩) hK hN hP 0 5 rfl rfl rfl hl.1 rfl (Nat.le_of_ble_eq_true rfl) ⟨Nat.zero_le _, Nat.zero_le _⟩ dX5_alike_104 (fun r104 hw104 => ?_)
          obtain rfl := hw104
          have hc104 := cnt_le (fun i => sdb ((oA u 26 g33).2 6) ((oA u 26 g33).2 7) (chV (u.2 1) (u.2 2) (u.2 3) (nI a1)) i && sdb ((oA u 26 g33).2 6) ((oA u 26 g33).2 7) (chV (u.2 1) (u.2 2) (u.2 3) (nI b1)) i) (sg.1 4)
          refine lv_isub hx hb dX5_alike_107 ?_
          exact W.iret (v := (nI (cnt (sdb ((oA u 26 g33).2 6) ((oA u 26 g33).2 7) (chV (u.2 1) (u.2 2) (u.2 3) (nI b1))) (sg.1 4))) - (nI (cnt (fun i => sdb ((oA u 26 g33).2 6) ((oA u 26 g33).2 7) (chV (u.2 1) (u.2 2) (u.2 3) (nI a1)) i && sdb ((oA u 26 g33).2 6) ((oA u 26 g33).2 7) (chV (u.2 1) (u.2 2) (u.2 3) (nI b1)) i) (sg.1 4)))) hx hb hr (fun t ht hW => ⟨⟨(nI (cnt (sdb ((oA u 26 g33).2 6) ((oA u 26 g33).2 7) (chV (u.2 1) (u.2 2) (u.2 3) (nI b1))) (sg.1 4))) - (nI (cnt (fun i => sdb ((oA u 26 g33).2 6) ((oA u 26 g33).2 7) (chV (u.2 1) (u.2 2) (u.2 3) (nI a1)) i && sdb ((oA u 26 g33).2 6) ((oA u 26 g33).2 7) (chV (u.2 1) (u.2 2) (u.2 3) (nI b1)) i) (sg.1 4))), (oA u 26 g33, lt, sj), rfl, ⟨RepM_26 _ hRM, by rw [aliA, if_pos (two_t hnv24 ha1 hb1 c18), vN_n (j := a1) (by omega), vN_n (j := b1) (by omega), aliB, if_neg (show ¬ (2 : Int32) = (0 : Int32) by decide), if_neg (show ¬ (2 : Int32) = (1 : Int32) by decide), if_pos rfl]; exact by rw [(hC.cv (i := a1) hic (by omega)), (hC.cv (i := b1) hic (by omega))]; exact cg2 (fun a b => nI a - nI b) (hC.nl _) (cnt_c _ (fun k hk => cg2 (fun a b => a && b) (hC.sd _ k hk) (hC.sd _ k hk)))⟩, show PP G (mw G h (oA u 26 g33) lt sj) t.heap by rw [ht]; exact hP⟩, hS.F ht⟩) hS.2.2 dX5_alike_108
        by_cases q39_3 : what = 3
        · skip
          subst q39_3
          refine lv_tableIn (tgt := 109) hx hb dX5_alike_39 (by decide) (by decide) rfl (by decide) ?_
          refine lv_aload_n hx hb dX5_alike_109 rfl (lv_at hl 2 rfl) ?_
          refine lv_iload hx hb dX5_alike_110 (lv_at hl 1 rfl) ?_
          refine lv_iload hx hb dX5_alike_112 (lv_at hl 0 rfl) ?_
          refine cRi (w := mw G h (oA u 26 g33) lt sj) (As := [.int (chV (u.2 1) (u.2 2) (u.2 3) (nI a1)), .int (chV (u.2 1) (u.2 2) (u.2 3) (nI b1))]) (rest := []) ⟨hx, hb, hml, hown, hts⟩ (mt_X5_partOfF l G h (oA u 26 g33) lt sj (sg.1 4) (chV (u.2 1) (u.2 2) (u.2 3) (nI a1)) (chV (u.2 1) (u.2 2) (u.2 3) (nI b1)) (hnl) (by first | assumption | omega)) (cwV 2 hts gX5_alike_X5_partOf rfl rfl rfl ⟨rfl, hd_X5_partOf⟩ ⟨Nat.le_of_ble_eq_true rfl, Nat.le_of_ble_eq_true rfl⟩) hK hN hP 0 5 rfl rfl rfl hl.1 rfl (Nat.le_of_ble_eq_true rfl) ⟨Nat.zero_le _, Nat.zero_le _⟩ dX5_alike_114 (fun r114 hw114 => ?_)
          obtain rfl := hw114
          exact W.iret (v := partP (sdb ((oA u 26 g33).2 6) ((oA u 26 g33).2 7) (chV (u.2 1) (u.2 2) (u.2 3) (nI a1))) (sdb ((oA u 26 g33).2 6) ((oA u 26 g33).2 7) (chV (u.2 1) (u.2 2) (u.2 3) (nI b1))) (sg.1 4)) hx hb hr (fun t ht hW => ⟨⟨partP (sdb ((oA u 26 g33).2 6) ((oA u 26 g33).2 7) (chV (u.2 1) (u.2 2) (u.2 3) (nI a1))) (sdb ((oA u 26 g33).2 6) ((oA u 26 g33).2 7) (chV (u.2 1) (u.2 2) (u.2 3) (nI b1))) (sg.1 4), (oA u 26 g33, lt, sj), rfl, ⟨RepM_26 _ hRM, by rw [aliA, if_pos (two_t hnv24 ha1 hb1 c18), vN_n (j := a1) (by omega), vN_n (j := b1) (by omega), aliB, if_neg (show ¬ (3 : Int32) = (0 : Int32) by decide), if_neg (show ¬ (3 : Int32) = (1 : Int32) by decide), if_neg (show ¬ (3 : Int32) = (2 : Int32) by decide), if_pos rfl]; exact by rw [(hC.cv (i := a1) hic (by omega)), (hC.cv (i := b1) hic (by omega))]; exact partP_c (hC.sd _) (hC.sd _)⟩, show PP G (mw G h (oA u 26 g33) lt sj) t.heap by rw [ht]; exact hP⟩, hS.F ht⟩) hS.2.2 dX5_alike_117
        have t39_0 : ¬ what.toInt = 0 := lv_neT q39_0 rfl
        have t39_1 : ¬ what.toInt = 1 := lv_neT q39_1 rfl
        have t39_2 : ¬ what.toInt = 2 := lv_neT q39_2 rfl
        have t39_3 : ¬ what.toInt = 3 := lv_neT q39_3 rfl
        refine lv_tableOut (tgt := 118) hx hb dX5_alike_39 (by omega) (by decide) ?_
        refine lv_ldc (v := (-1000000002 : Int32)) hx hb hown (hts (.constant RX5 100 (-1000000002)) (List.mem_of_getElem? (i := 2) rfl)) dX5_alike_118 ?_
        exact W.iret (v := (-1000000002 : Int32)) hx hb hr (fun t ht hW => ⟨⟨(-1000000002 : Int32), (oA u 26 g33, lt, sj), rfl, ⟨RepM_26 _ hRM, by rw [aliA, if_pos (two_t hnv24 ha1 hb1 c18), vN_n (j := a1) (by omega), vN_n (j := b1) (by omega), aliB, if_neg q39_0, if_neg q39_1, if_neg q39_2, if_neg q39_3]⟩, show PP G (mw G h (oA u 26 g33) lt sj) t.heap by rw [ht]; exact hP⟩, hS.F ht⟩) hS.2.2 dX5_alike_120
      · skip
        have n18 : a1 = b1 := (nI_eq (a := a1) (b := b1) (by omega) (by omega)).mp c18
        refine lv_ldc (v := (-1000000001 : Int32)) hx hb hown (hts (.constant RX5 216 (-1000000001)) (List.mem_of_getElem? (i := 1) rfl)) dX5_alike_21 ?_
        exact W.iret (v := (-1000000001 : Int32)) hx hb hr (fun t ht hW => ⟨⟨(-1000000001 : Int32), (u, lt, sj), rfl, ⟨hRM, by rw [aliA, if_neg (by first | exact two_f1 (inR_f (by omega) hna1) | exact two_f2 (inR_f (by omega) hnb1) | exact two_f3 c18)]⟩, show PP G (mw G h u lt sj) t.heap by rw [ht]; exact hP⟩, hS.F ht⟩) hS.2.2 dX5_alike_23
    · skip
      refine lv_if_eq (tgt := 21) hx hb dX5_alike_13 (by decide) (fun _ => ?_) (fun c9 => absurd (by decide) c9)
      refine lv_ldc (v := (-1000000001 : Int32)) hx hb hown (hts (.constant RX5 216 (-1000000001)) (List.mem_of_getElem? (i := 1) rfl)) dX5_alike_21 ?_
      exact W.iret (v := (-1000000001 : Int32)) hx hb hr (fun t ht hW => ⟨⟨(-1000000001 : Int32), (u, lt, sj), rfl, ⟨hRM, by rw [aliA, if_neg (by first | exact two_f1 (inR_f (by omega) hna1) | exact two_f2 (inR_f (by omega) hnb1) | exact two_f3 c18)]⟩, show PP G (mw G h u lt sj) t.heap by rw [ht]; exact hP⟩, hS.F ht⟩) hS.2.2 dX5_alike_23
  · skip
    refine lv_if_eq (tgt := 21) hx hb dX5_alike_5 (by decide) (fun _ => ?_) (fun c9 => absurd (by decide) c9)
    refine lv_ldc (v := (-1000000001 : Int32)) hx hb hown (hts (.constant RX5 216 (-1000000001)) (List.mem_of_getElem? (i := 1) rfl)) dX5_alike_21 ?_
    exact W.iret (v := (-1000000001 : Int32)) hx hb hr (fun t ht hW => ⟨⟨(-1000000001 : Int32), (u, lt, sj), rfl, ⟨hRM, by rw [aliA, if_neg (by first | exact two_f1 (inR_f (by omega) hna1) | exact two_f2 (inR_f (by omega) hnb1) | exact two_f3 c18)]⟩, show PP G (mw G h u lt sj) t.heap by rw [ht]; exact hP⟩, hS.F ht⟩) hS.2.2 dX5_alike_23
set_option maxHeartbeats 1000000 in
set_option maxRecDepth 100000 in
theorem mt_X5_withoutS (l : Launch) (G : gG) (h : Nat → Nat) (sz : Nat) (u : oS) (lt : Int64) (sj : Nat → Int64) (sg : pS) (zz : Nat → Nat → Int64) (a : Int32) (b : Int32) (nh : Nat) (hI : MIx u (sg.1 0) (sg.1 4) (sg.1 10) nh) (hIS : IS sg) (hRM : RepM u sj sg zz) : Met l yX5_without wsX5_without ({ frames := 3, cells := 0, slots := 0, locals := 66 }) (preW G (mw G h u lt sj) sz [.ref (h 0), .int a, .int b]) (va_Qi (fun (r : Int32) (v : oS × Int64 × (Nat → Int64)) => RepM v.1 v.2.2 (sg) (zz) ∧ r = witA sg a b) (fun v t => PP G (mw G h v.1 v.2.1 v.2.2) t.heap) (va_A (mw G h u lt sj) sz)) 0 0 (va_A (mw G h u lt sj) sz) := by
  refine Met.ofW (cc := cX5_without) (maxL := 3) (ret := (some .int)) (by decide) rfl ?_
  intro p e s m args below meth c s₁ B hml hv
  obtain ⟨ha, hsz, hP, hK, hN, hD0⟩ := hv
  subst ha
  have hx := B.exec
  have hb := B.bytes
  have hr := B.returns
  have hts := atoms_spec (ws := wsX5_without) B.pre
  have hown : s.vm.findClass RX5 = some m.cls := findClass_of_methodNamed B.named
  have hlocks := B.notSynchronized
  subst hsz
  have hD := hD0.self (sz := s.heap.size)
  generalize hAe : va_A (mw G h u lt sj) s.heap.size = A at hD ⊢
  have hA : ∀ q : Nat, s.heap.size ≤ q → A q := fun q h => by rw [← hAe]; exact Or.inr h
  clear hAe hD0
  have hS : va_S A s.heap s.heap [] := va_S.rf
  have hl := lv_entry ([.ref (h 0), .int a, .int b]) (n := 3) (Nat.le_of_ble_eq_true rfl)
  rw [lg_entry_eq]
  generalize (lg_sl ([.ref (h 0), .int a, .int b]) ++ List.replicate (3 - (lg_sl ([.ref (h 0), .int a, .int b])).length) Slot.unset).toArray = ls at hl ⊢
  have hl : lv_has ls 3 [(0, .ref (h 0)), (1, .int a), (2, .int b)] := hl
  have hC := hRM.1
  have hic := hIS.ic
  have hle8 := hIS.2.2.1
  have h8e := hRM.2.1
  have hI0 := hI
  obtain ⟨hnv, hnl, hnt, hnh, hnv24, hnl120, hnt240, hnh120, hop, hopn, hparV, hsz4, himg⟩ := hI
  refine lv_aload_n hx hb dX5_without_0 rfl (lv_at hl 0 rfl) ?_
  refine lv_iload_n hx hb dX5_without_1 rfl (lv_at hl 1 rfl) ?_
  refine cRi (w := mw G h u lt sj) (As := [.int a]) (rest := []) ⟨hx, hb, hml, hown, hts⟩ (mt_X5_isVersion l G h u lt sj (sg.1 0) a (hnv) (by first | assumption | omega)) (cwV 1 hts gX5_without_X5_isVersion rfl rfl rfl ⟨rfl, hd_X5_isVersion⟩ ⟨Nat.le_of_ble_eq_true rfl, Nat.le_of_ble_eq_true rfl⟩) hK hN hP 0 5 rfl rfl rfl hl.1 rfl (Nat.le_of_ble_eq_true rfl) ⟨Nat.zero_le _, Nat.zero_le _⟩ dX5_without_2 (fun r2 hw2 => ?_)
  rcases hw2 with ⟨rfl, a1, ha1, rfl⟩ | ⟨rfl, hna1⟩
  · skip
    refine lv_if_eq (tgt := 21) hx hb dX5_without_5 (by decide) (fun c9 => absurd c9 (by decide)) (fun _ => ?_)
    refine lv_aload_n hx hb dX5_without_8 rfl (lv_at hl 0 rfl) ?_
    refine lv_iload_n hx hb dX5_without_9 rfl (lv_at hl 2 rfl) ?_
    refine cRi (w := mw G h u lt sj) (As := [.int b]) (rest := []) ⟨hx, hb, hml, hown, hts⟩ (mt_X5_isVersion l G h u lt sj (sg.1 0) b (hnv) (by first | assumption | omega)) (cwV 1 hts gX5_without_X5_isVersion rfl rfl rfl ⟨rfl, hd_X5_isVersion⟩ ⟨Nat.le_of_ble_eq_true rfl, Nat.le_of_ble_eq_true rfl⟩) hK hN hP 0 5 rfl rfl rfl hl.1 rfl (Nat.le_of_ble_eq_true rfl) ⟨Nat.zero_le _, Nat.zero_le _⟩ dX5_without_10 (fun r10 hw10 => ?_)
    rcases hw10 with ⟨rfl, b1, hb1, rfl⟩ | ⟨rfl, hnb1⟩
    · skip
      refine lv_if_eq (tgt := 21) hx hb dX5_without_13 (by decide) (fun c9 => absurd c9 (by decide)) (fun _ => ?_)
      refine lv_iload_n hx hb dX5_without_16 rfl (lv_at hl 2 rfl) ?_
      refine lv_iload_n hx hb dX5_without_17 rfl (lv_at hl 1 rfl) ?_
      refine lv_icmp_ne (tgt := 24) hx hb dX5_without_18 (by decide) (fun c18 => ?_) (fun c18 => ?_)
      · skip
        have n18 : ¬ (b1 = a1) := fun q9 => c18 ((nI_eq (a := b1) (b := a1) (by omega) (by omega)).mpr q9)
        refine lv_aload_n hx hb dX5_without_24 rfl (lv_at hl 0 rfl) ?_
        refine lv_aload_n hx hb dX5_without_25 rfl (lv_at hl 0 rfl) ?_
        refine lv_iload_n hx hb dX5_without_26 rfl (lv_at hl 1 rfl) ?_
        have hP := mw_self26 hP
        have hD : va_D A (mw G h (oA u 26 (u.2 26)) lt sj) := mw_self26D hD
        refine cXi (As := [.int (nI a1)]) (rest := [.ref (h 0)]) (S := oS × Int64 × (Nat → Int64)) (wa := mw G h (oA u 26 (u.2 26)) lt sj) (w1 := fun v => mw G h v.1 v.2.1 v.2.2) ⟨hx, hb, hml, hown, hts⟩ (mt_X5_changesOf l G h _ u lt sj (u.2 26) a1 (by first | assumption | omega) (hparV.le (by omega))) (cwV 1 hts gX5_without_X5_changesOf rfl rfl rfl ⟨rfl, hd_X5_changesOf⟩ ⟨Nat.le_of_ble_eq_true rfl, Nat.le_of_ble_eq_true rfl⟩) hK hN hP hD hS hA (fun _ => rfl) 0 5 rfl rfl rfl hl.1 rfl (Nat.le_of_ble_eq_true rfl) ⟨Nat.zero_le _, Nat.zero_le _⟩ dX5_without_27 (fun r27 u27 H locs hw27 hP hD hS => ?_)
        obtain ⟨g27, rfl, rfl⟩ := hw27
        have hP : PP G (mw G h (oA u 26 g27) lt sj) H := hP
        have hD : va_D A (mw G h (oA u 26 g27) lt sj) := hD
        refine lv_iconst (v := (1 : Int32)) hx hb dX5_without_30 (by decide) ?_
        refine lv_iload_n hx hb dX5_without_31 rfl (lv_at hl 2 rfl) ?_
        refine lv_ishl hx hb dX5_without_32 ?_
        refine lv_iconst (v := (-1 : Int32)) hx hb dX5_without_33 (by decide) ?_
        refine lv_ixor hx hb dX5_without_34 ?_
        refine lv_iand hx hb dX5_without_35 ?_
        refine cRi (w := mw G h (oA u 26 g27) lt sj) (As := [.int ((chV (u.2 1) (u.2 2) (u.2 3) (nI a1)) &&& (((1 : Int32) <<< ((nI b1) &&& 31)) ^^^ (-1 : Int32)))]) (rest := []) ⟨hx, hb, hml, hown, hts⟩ (mt_X5_manyOf l G h (oA u 26 g27) lt sj (sg.1 4) ((chV (u.2 1) (u.2 2) (u.2 3) (nI a1)) &&& (((1 : Int32) <<< ((nI b1) &&& 31)) ^^^ (-1 : Int32))) (hnl) (by first | assumption | omega)) (cwV 1 hts gX5_without_X5_manyOf rfl rfl rfl ⟨rfl, hd_X5_manyOf⟩ ⟨Nat.le_of_ble_eq_true rfl, Nat.le_of_ble_eq_true rfl⟩) hK hN hP 0 5 rfl rfl rfl hl.1 rfl (Nat.le_of_ble_eq_true rfl) ⟨Nat.zero_le _, Nat.zero_le _⟩ dX5_without_36 (fun r36 hw36 => ?_)
        obtain rfl := hw36
        have hc36 := cnt_le (sdb ((oA u 26 g27).2 6) ((oA u 26 g27).2 7) ((chV (u.2 1) (u.2 2) (u.2 3) (nI a1)) &&& (((1 : Int32) <<< ((nI b1) &&& 31)) ^^^ (-1 : Int32)))) (sg.1 4)
        exact W.iret (v := nI (cnt (sdb ((oA u 26 g27).2 6) ((oA u 26 g27).2 7) ((chV (u.2 1) (u.2 2) (u.2 3) (nI a1)) &&& (((1 : Int32) <<< ((nI b1) &&& 31)) ^^^ (-1 : Int32)))) (sg.1 4))) hx hb hr (fun t ht hW => ⟨⟨nI (cnt (sdb ((oA u 26 g27).2 6) ((oA u 26 g27).2 7) ((chV (u.2 1) (u.2 2) (u.2 3) (nI a1)) &&& (((1 : Int32) <<< ((nI b1) &&& 31)) ^^^ (-1 : Int32)))) (sg.1 4)), (oA u 26 g27, lt, sj), rfl, ⟨RepM_26 _ hRM, by rw [witA, if_pos (two_t hnv24 ha1 hb1 (fun q => c18 q.symm)), vN_n (j := a1) (by omega), vN_n (j := b1) (by omega), (hC.cv (i := a1) hic (by omega))]; exact congrArg nI (hC.nl _)⟩, show PP G (mw G h (oA u 26 g27) lt sj) t.heap by rw [ht]; exact hP⟩, hS.F ht⟩) hS.2.2 dX5_without_39
      · skip
        have n18 : b1 = a1 := (nI_eq (a := b1) (b := a1) (by omega) (by omega)).mp c18
        refine lv_ldc (v := (-1000000001 : Int32)) hx hb hown (hts (.constant RX5 216 (-1000000001)) (List.mem_of_getElem? (i := 1) rfl)) dX5_without_21 ?_
        exact W.iret (v := (-1000000001 : Int32)) hx hb hr (fun t ht hW => ⟨⟨(-1000000001 : Int32), (u, lt, sj), rfl, ⟨hRM, by rw [witA, if_neg (by first | exact two_f1 (inR_f (by omega) hna1) | exact two_f2 (inR_f (by omega) hnb1) | exact two_f3 c18.symm)]⟩, show PP G (mw G h u lt sj) t.heap by rw [ht]; exact hP⟩, hS.F ht⟩) hS.2.2 dX5_without_23
    · skip
      refine lv_if_eq (tgt := 21) hx hb dX5_without_13 (by decide) (fun _ => ?_) (fun c9 => absurd (by decide) c9)
      refine lv_ldc (v := (-1000000001 : Int32)) hx hb hown (hts (.constant RX5 216 (-1000000001)) (List.mem_of_getElem? (i := 1) rfl)) dX5_without_21 ?_
      exact W.iret (v := (-1000000001 : Int32)) hx hb hr (fun t ht hW => ⟨⟨(-1000000001 : Int32), (u, lt, sj), rfl, ⟨hRM, by rw [witA, if_neg (by first | exact two_f1 (inR_f (by omega) hna1) | exact two_f2 (inR_f (by omega) hnb1) | exact two_f3 c18.symm)]⟩, show PP G (mw G h u lt sj) t.heap by rw [ht]; exact hP⟩, hS.F ht⟩) hS.2.2 dX5_without_23
  · skip
    refine lv_if_eq (tgt := 21) hx hb dX5_without_5 (by decide) (fun _ => ?_) (fun c9 => absurd (by decide) c9)
    refine lv_ldc (v := (-1000000001 : Int32)) hx hb hown (hts (.constant RX5 216 (-1000000001)) (List.mem_of_getElem? (i := 1) rfl)) dX5_without_21 ?_
    exact W.iret (v := (-1000000001 : Int32)) hx hb hr (fun t ht hW => ⟨⟨(-1000000001 : Int32), (u, lt, sj), rfl, ⟨hRM, by rw [witA, if_neg (by first | exact two_f1 (inR_f (by omega) hna1) | exact two_f2 (inR_f (by omega) hnb1) | exact two_f3 c18.symm)]⟩, show PP G (mw G h u lt sj) t.heap by rw [ht]; exact hP⟩, hS.F ht⟩) hS.2.2 dX5_without_23
set_option maxHeartbeats 1000000 in
set_option maxRecDepth 100000 in
theorem mt_X5_textS (l : Launch) (G : gG) (h : Nat → Nat) (sz : Nat) (u : oS) (lt : Int64) (sj : Nat → Int64) (sg : pS) (zz : Nat → Nat → Int64) (a : Int32) (i : Int32) (what : Int32) (nh : Nat) (hI : MIx u (sg.1 0) (sg.1 4) (sg.1 10) nh) (hIS : IS sg) (hRM : RepM u sj sg zz) : Met l yX5_text wsX5_text ({ frames := 3, cells := 0, slots := 0, locals := 67 }) (preW G (mw G h u lt sj) sz [.ref (h 0), .int a, .int i, .int what]) (va_Qi (fun (r : Int32) (v : oS × Int64 × (Nat → Int64)) => RepM v.1 v.2.2 (sg) (zz) ∧ r = txtA sg a i what) (fun v t => PP G (mw G h v.1 v.2.1 v.2.2) t.heap) (va_A (mw G h u lt sj) sz)) 0 0 (va_A (mw G h u lt sj) sz) := by
  refine Met.ofW (cc := cX5_text) (maxL := 5) (ret := (some .int)) (by decide) rfl ?_
  intro p e s m args below meth c s₁ B hml hv
  obtain ⟨ha, hsz, hP, hK, hN, hD0⟩ := hv
  subst ha
  have hx := B.exec
  have hb := B.bytes
  have hr := B.returns
  have hts := atoms_spec (ws := wsX5_text) B.pre
  have hown : s.vm.findClass RX5 = some m.cls := findClass_of_methodNamed B.named
  have hlocks := B.notSynchronized
  subst hsz
  have hD := hD0.self (sz := s.heap.size)
  generalize hAe : va_A (mw G h u lt sj) s.heap.size = A at hD ⊢
  have hA : ∀ q : Nat, s.heap.size ≤ q → A q := fun q h => by rw [← hAe]; exact Or.inr h
  clear hAe hD0
  have hS : va_S A s.heap s.heap [] := va_S.rf
  have hiX5 : ∀ w ∈ wsX50, w ∈ wsX5_text := fun w h9 => List.mem_cons_of_mem _ (List.mem_append_right _ (h9))
  have k178 := hts (.fieldLink RX5 178 "WovenHistoryModel" "isOpen" "Z") (List.mem_of_getElem? (i := 4) rfl)
  have k91 := hts (.fieldLink RX5 91 "WovenHistoryModel" "versions" "I") (List.mem_of_getElem? (i := 6) rfl)
  have k19 := hts (.fieldLink RX5 19 "WovenHistoryModel" "letter" "[I") (List.mem_of_getElem? (i := 7) rfl)
  have k22 := hts (.fieldLink RX5 22 "WovenHistoryModel" "brought" "[I") (List.mem_of_getElem? (i := 8) rfl)
  have hl := lv_entry ([.ref (h 0), .int a, .int i, .int what]) (n := 5) (Nat.le_of_ble_eq_true rfl)
  rw [lg_entry_eq]
  generalize (lg_sl ([.ref (h 0), .int a, .int i, .int what]) ++ List.replicate (5 - (lg_sl ([.ref (h 0), .int a, .int i, .int what])).length) Slot.unset).toArray = ls at hl ⊢
  have hl : lv_has ls 5 [(0, .ref (h 0)), (1, .int a), (2, .int i), (3, .int what)] := hl
  have hC := hRM.1
  have hic := hIS.ic
  have hle8 := hIS.2.2.1
  have h8e := hRM.2.1
  have hI0 := hI
  obtain ⟨hnv, hnl, hnt, hnh, hnv24, hnl120, hnt240, hnh120, hop, hopn, hparV, hsz4, himg⟩ := hI
  refine lv_iload_n hx hb dX5_text_0 rfl (lv_at hl 1 rfl) ?_
  refine lv_iconst (v := (-1 : Int32)) hx hb dX5_text_1 (by decide) ?_
  refine lv_icmp_eq (tgt := 16) hx hb dX5_text_2 (by decide) (fun c2 => ?_) (fun c2 => ?_)
  · skip
    subst c2
    refine lv_iload_n hx hb dX5_text_16 rfl (lv_at hl 2 rfl) ?_
    refine lv_if_lt (tgt := 32) hx hb dX5_text_17 (by decide) (fun c17 => ?_) (fun c17 => ?_)
    · skip
      refine lv_ldc (v := (-1000000002 : Int32)) hx hb hown (hts (.constant RX5 100 (-1000000002)) (List.mem_of_getElem? (i := 3) rfl)) dX5_text_32 ?_
      exact W.iret (v := (-1000000002 : Int32)) hx hb hr (fun t ht hW => ⟨⟨(-1000000002 : Int32), (u, lt, sj), rfl, ⟨hRM, by rw [txtA, if_neg (fun q => q.1 rfl), if_pos (by first | exact Or.inl c17 | exact Or.inr (what3_n hn26))]⟩, show PP G (mw G h u lt sj) t.heap by rw [ht]; exact hP⟩, hS.F ht⟩) hS.2.2 dX5_text_34
    · skip
      obtain ⟨i17, hi17, rfl⟩ := nI_of c17
      refine lv_iload_n hx hb dX5_text_20 rfl (lv_at hl 3 rfl) ?_
      refine lv_i2l (v := what.toInt64) hx hb dX5_text_21 rfl ?_
      refine lv_lconst (v := 0) hx hb dX5_text_22 (by decide) ?_
      refine lv_ldc2 (v := 2) hx hb hown (hts (.constantLong RX5 223 (2)) (List.mem_of_getElem? (i := 2) rfl)) dX5_text_23 ?_
      refine cSi (As := [.long what.toInt64, .long 0, .long 2]) (rest := []) ⟨hx, hb, hml, hown, hts⟩ (mt_X5_in l what.toInt64 0 2) (va_cwS 3 hts gX5_text_X5_in rfl rfl rfl hd_X5_in ⟨Nat.le_of_ble_eq_true rfl, Nat.le_of_ble_eq_true rfl⟩) rfl hl.1 rfl (Nat.le_of_ble_eq_true rfl) ⟨Nat.zero_le _, Nat.zero_le _⟩ dX5_text_26 (fun r26 hw26 => ?_)
      rcases hw26 with ⟨rfl, ha26, hb26⟩ | ⟨rfl, hn26⟩
      · skip
        refine lv_if_ne (tgt := 35) hx hb dX5_text_29 (by decide) (fun _ => ?_) (fun c9 => absurd c9 (by decide))
        refine lv_iload_n hx hb dX5_text_35 rfl (lv_at hl 1 rfl) ?_
        refine lv_iconst (v := (-1 : Int32)) hx hb dX5_text_36 (by decide) ?_
        refine lv_icmp_ne (tgt := 50) hx hb dX5_text_37 (by decide) (fun c9 => absurd (by decide) c9) (fun _ => ?_)
        refine lv_aload_n hx hb dX5_text_40 rfl (lv_at hl 0 rfl) ?_
        refine va_get (D := gD G) (ci := 5) (v := .int (u.1 8)) (C := RX5) (T := TX5) (N := 38) hx hb hts hiX5 hown hK hP 0 rfl rfl 8 (by decide) k178 (fun _ h9 => h9) rfl dX5_text_41 ?_
        refine lv_if_ne (tgt := 50) hx hb dX5_text_44 (by decide) (fun c44 => ?_) (fun c44 => ?_)
        · skip
          obtain ⟨ho1, ho2⟩ := hopn (hop.resolve_left c44)
          refine lv_aload_n hx hb dX5_text_50 rfl (lv_at hl 0 rfl) ?_
          refine lv_aload_n hx hb dX5_text_51 rfl (lv_at hl 0 rfl) ?_
          refine lv_iload_n hx hb dX5_text_52 rfl (lv_at hl 1 rfl) ?_
          refine lv_iconst (v := (-1 : Int32)) hx hb dX5_text_53 (by decide) ?_
          refine lv_icmp_ne (tgt := 64) hx hb dX5_text_54 (by decide) (fun c9 => absurd (by decide) c9) (fun _ => ?_)
          refine lv_aload_n hx hb dX5_text_57 rfl (lv_at hl 0 rfl) ?_
          refine va_get (D := gD G) (ci := 5) (v := .int (u.1 0)) (C := RX5) (T := TX5) (N := 38) hx hb hts hiX5 hown hK hP 0 rfl rfl 0 (by decide) k91 (fun _ h9 => h9) rfl dX5_text_58 ?_
          refine topE hnv ?_
          refine lv_goto (tgt := 65) hx hb dX5_text_61 (by decide) ?_
          have hP := mw_self26 hP
          have hD : va_D A (mw G h (oA u 26 (u.2 26)) lt sj) := mw_self26D hD
          refine cXi (As := [.int (nI (sg.1 0))]) (rest := [.ref (h 0)]) (S := oS × Int64 × (Nat → Int64)) (wa := mw G h (oA u 26 (u.2 26)) lt sj) (w1 := fun v => mw G h v.1 v.2.1 v.2.2) ⟨hx, hb, hml, hown, hts⟩ (mt_X5_changesOf l G h _ u lt sj (u.2 26) (sg.1 0) (by first | assumption | omega) (ho2)) (cwV 1 hts gX5_text_X5_changesOf rfl rfl rfl ⟨rfl, hd_X5_changesOf⟩ ⟨Nat.le_of_ble_eq_true rfl, Nat.le_of_ble_eq_true rfl⟩) hK hN hP hD hS hA (fun _ => rfl) 0 5 rfl rfl rfl hl.1 rfl (Nat.le_of_ble_eq_true rfl) ⟨Nat.zero_le _, Nat.zero_le _⟩ dX5_text_65 (fun r65 u65 H locs hw65 hP hD hS => ?_)
          obtain ⟨g65, rfl, rfl⟩ := hw65
          have hP : PP G (mw G h (oA u 26 g65) lt sj) H := hP
          have hD : va_D A (mw G h (oA u 26 g65) lt sj) := hD
          refine lv_iload_n hx hb dX5_text_68 rfl (lv_at hl 2 rfl) ?_
          refine cRi (w := mw G h (oA u 26 g65) lt sj) (As := [.int (chV (u.2 1) (u.2 2) (u.2 3) (nI (sg.1 0))), .int (nI i17)]) (rest := []) ⟨hx, hb, hml, hown, hts⟩ (mt_X5_lineAt l G h (oA u 26 g65) lt sj (sg.1 4) (chV (u.2 1) (u.2 2) (u.2 3) (nI (sg.1 0))) i17 (hnl) (by first | assumption | omega) (by first | assumption | omega)) (cwV 2 hts gX5_text_X5_lineAt rfl rfl rfl ⟨rfl, hd_X5_lineAt⟩ ⟨Nat.le_of_ble_eq_true rfl, Nat.le_of_ble_eq_true rfl⟩) hK hN hP 0 5 rfl rfl rfl hl.1 rfl (Nat.le_of_ble_eq_true rfl) ⟨Nat.zero_le _, Nat.zero_le _⟩ dX5_text_69 (fun r69 hw69 => ?_)
          rcases hw69 with ⟨i69, hi69, hp69, hq69, rfl⟩ | ⟨hq69, rfl⟩
          · skip
            refine lv_istore (lv' := [(4, .int (nI (i69))), (0, .ref (h 0)), (1, .int (-1 : Int32)), (2, .int (nI i17)), (3, .int what)]) hx hb dX5_text_72 hl (by decide) rfl (fun ls hl => ?_)
            refine lv_iload hx hb dX5_text_74 (lv_at hl 0 rfl) ?_
            refine lv_if_ge (tgt := 81) hx hb dX5_text_76 (by decide) (fun _ => ?_) (fun c9 => absurd (nI_pos' (by omega)) c9)
            refine lv_iload_n hx hb dX5_text_81 rfl (lv_at hl 4 rfl) ?_
            refine lv_if_ne (tgt := 95) hx hb dX5_text_82 (by decide) (fun c82 => ?_) (fun c82 => ?_)
            · skip
              refine lv_iload_n hx hb dX5_text_95 rfl (lv_at hl 4 rfl) ?_
              refine lv_iconst (v := (1 : Int32)) hx hb dX5_text_96 (by decide) ?_
              refine lv_icmp_ne (tgt := 110) hx hb dX5_text_97 (by decide) (fun c97 => ?_) (fun c97 => ?_)
              · skip
                refine lv_iload hx hb dX5_text_110 (lv_at hl 0 rfl) ?_
                exact W.iret (v := nI (i69)) hx hb hr (fun t ht hW => ⟨⟨nI (i69), (oA u 26 g65, lt, sj), rfl, ⟨RepM_26 _ hRM, by rw [txtA, if_neg (fun q => q.1 rfl), if_neg (fun q => by rcases q with q | q; exact absurd q (nI_pos (by omega)); exact q (what3_y ha26 hb26)), if_neg (fun q => absurd q.2 (fun q9 => c44 (h8e.trans (by rw [q9]; rfl)))), if_pos rfl, vN_n' (j := i17) (by omega), txtB, ← (cvO hC hIS (show sg.1 8 = 1 by have h8 : ¬ sg.1 8 = 0 := (fun q9 => c44 (h8e.trans (by rw [q9]; rfl))); omega)), ← fndN_c _ _ (hC.sd _), show fndN (sdb (u.2 6) (u.2 7) (chV (u.2 1) (u.2 2) (u.2 3) (nI (sg.1 0)))) (sg.1 4) i17 = i69 from fndN_hit hp69 hq69 hi69, if_pos hi69]; first | (rw [if_pos c82]; exact hC.2.2.2.2.2.1 i69 hi69) | (rw [if_neg c82, if_pos c97]; exact hC.2.2.2.2.2.2.1 i69 hi69) | rw [if_neg c82, if_neg c97]⟩, show PP G (mw G h (oA u 26 g65) lt sj) t.heap by rw [ht]; exact hP⟩, hS.F ht⟩) hS.2.2 dX5_text_112
              · skip
                refine lv_aload_n hx hb dX5_text_100 rfl (lv_at hl 1 rfl) ?_
                refine va_get (D := gD G) (ci := 5) (v := .ref (h 6)) (C := RX5) (T := TX5) (N := 38) hx hb hts hiX5 hown hK hP 0 rfl rfl 6 (by decide) k22 (fun _ h9 => h9) rfl dX5_text_101 ?_
                refine lv_iload hx hb dX5_text_104 (lv_at hl 0 rfl) ?_
                refine ialdN (f := u.2 6) (n := 120) (k := i69) hx hb hK hP 5 rfl rfl (by omega) dX5_text_106 ?_
                refine lv_goto (tgt := 112) hx hb dX5_text_107 (by decide) ?_
                exact W.iret (v := (u.2 6) i69) hx hb hr (fun t ht hW => ⟨⟨(u.2 6) i69, (oA u 26 g65, lt, sj), rfl, ⟨RepM_26 _ hRM, by rw [txtA, if_neg (fun q => q.1 rfl), if_neg (fun q => by rcases q with q | q; exact absurd q (nI_pos (by omega)); exact q (what3_y ha26 hb26)), if_neg (fun q => absurd q.2 (fun q9 => c44 (h8e.trans (by rw [q9]; rfl)))), if_pos rfl, vN_n' (j := i17) (by omega), txtB, ← (cvO hC hIS (show sg.1 8 = 1 by have h8 : ¬ sg.1 8 = 0 := (fun q9 => c44 (h8e.trans (by rw [q9]; rfl))); omega)), ← fndN_c _ _ (hC.sd _), show fndN (sdb (u.2 6) (u.2 7) (chV (u.2 1) (u.2 2) (u.2 3) (nI (sg.1 0)))) (sg.1 4) i17 = i69 from fndN_hit hp69 hq69 hi69, if_pos hi69]; first | (rw [if_pos c82]; exact hC.2.2.2.2.2.1 i69 hi69) | (rw [if_neg c82, if_pos c97]; exact hC.2.2.2.2.2.2.1 i69 hi69) | rw [if_neg c82, if_neg c97]⟩, show PP G (mw G h (oA u 26 g65) lt sj) t.heap by rw [ht]; exact hP⟩, hS.F ht⟩) hS.2.2 dX5_text_112
            · skip
              refine lv_aload_n hx hb dX5_text_85 rfl (lv_at hl 1 rfl) ?_
              refine va_get (D := gD G) (ci := 5) (v := .ref (h 5)) (C := RX5) (T := TX5) (N := 38) hx hb hts hiX5 hown hK hP 0 rfl rfl 5 (by decide) k19 (fun _ h9 => h9) rfl dX5_text_86 ?_
              refine lv_iload hx hb dX5_text_89 (lv_at hl 0 rfl) ?_
              refine ialdN (f := u.2 5) (n := 120) (k := i69) hx hb hK hP 4 rfl rfl (by omega) dX5_text_91 ?_
              refine lv_goto (tgt := 112) hx hb dX5_text_92 (by decide) ?_
              exact W.iret (v := (u.2 5) i69) hx hb hr (fun t ht hW => ⟨⟨(u.2 5) i69, (oA u 26 g65, lt, sj), rfl, ⟨RepM_26 _ hRM, by rw [txtA, if_neg (fun q => q.1 rfl), if_neg (fun q => by rcases q with q | q; exact absurd q (nI_pos (by omega)); exact q (what3_y ha26 hb26)), if_neg (fun q => absurd q.2 (fun q9 => c44 (h8e.trans (by rw [q9]; rfl)))), if_pos rfl, vN_n' (j := i17) (by omega), txtB, ← (cvO hC hIS (show sg.1 8 = 1 by have h8 : ¬ sg.1 8 = 0 := (fun q9 => c44 (h8e.trans (by rw [q9]; rfl))); omega)), ← fndN_c _ _ (hC.sd _), show fndN (sdb (u.2 6) (u.2 7) (chV (u.2 1) (u.2 2) (u.2 3) (nI (sg.1 0)))) (sg.1 4) i17 = i69 from fndN_hit hp69 hq69 hi69, if_pos hi69]; first | (rw [if_pos c82]; exact hC.2.2.2.2.2.1 i69 hi69) | (rw [if_neg c82, if_pos c97]; exact hC.2.2.2.2.2.2.1 i69 hi69) | rw [if_neg c82, if_neg c97]⟩, show PP G (mw G h (oA u 26 g65) lt sj) t.heap by rw [ht]; exact hP⟩, hS.F ht⟩) hS.2.2 dX5_text_112
          · skip
            refine lv_istore (lv' := [(4, .int (-1 : Int32)), (0, .ref (h 0)), (1, .int (-1 : Int32)), (2, .int (nI i17)), (3, .int what)]) hx hb dX5_text_72 hl (by decide) rfl (fun ls hl => ?_)
            refine lv_iload hx hb dX5_text_74 (lv_at hl 0 rfl) ?_
            refine lv_if_ge (tgt := 81) hx hb dX5_text_76 (by decide) (fun c9 => absurd c9 (by decide)) (fun _ => ?_)
            refine lv_iconst (v := (-1 : Int32)) hx hb dX5_text_79 (by decide) ?_
            exact W.iret (v := (-1 : Int32)) hx hb hr (fun t ht hW => ⟨⟨(-1 : Int32), (oA u 26 g65, lt, sj), rfl, ⟨RepM_26 _ hRM, by rw [txtA, if_neg (fun q => q.1 rfl), if_neg (fun q => by rcases q with q | q; exact absurd q (nI_pos (by omega)); exact q (what3_y ha26 hb26)), if_neg (fun q => absurd q.2 (fun q9 => c44 (h8e.trans (by rw [q9]; rfl)))), if_pos rfl, vN_n' (j := i17) (by omega), txtB, ← (cvO hC hIS (show sg.1 8 = 1 by have h8 : ¬ sg.1 8 = 0 := (fun q9 => c44 (h8e.trans (by rw [q9]; rfl))); omega)), ← fndN_c _ _ (hC.sd _), show fndN (sdb (u.2 6) (u.2 7) (chV (u.2 1) (u.2 2) (u.2 3) (nI (sg.1 0)))) (sg.1 4) i17 = sg.1 4 from fndN_miss hq69, if_neg (Nat.lt_irrefl _)]⟩, show PP G (mw G h (oA u 26 g65) lt sj) t.heap by rw [ht]; exact hP⟩, hS.F ht⟩) hS.2.2 dX5_text_80
        · skip
          refine lv_ldc (v := (-1000000003 : Int32)) hx hb hown (hts (.constant RX5 225 (-1000000003)) (List.mem_of_getElem? (i := 5) rfl)) dX5_text_47 ?_
          exact W.iret (v := (-1000000003 : Int32)) hx hb hr (fun t ht hW => ⟨⟨(-1000000003 : Int32), (u, lt, sj), rfl, ⟨hRM, by rw [txtA, if_neg (fun q => q.1 rfl), if_neg (fun q => by rcases q with q | q; exact absurd q (nI_pos (by omega)); exact q (what3_y ha26 hb26)), if_pos ⟨rfl, nI_z (by omega) (h8e.symm.trans c44)⟩]⟩, show PP G (mw G h u lt sj) t.heap by rw [ht]; exact hP⟩, hS.F ht⟩) hS.2.2 dX5_text_49
      · skip
        refine lv_if_ne (tgt := 35) hx hb dX5_text_29 (by decide) (fun c9 => absurd (by decide) c9) (fun _ => ?_)
        refine lv_ldc (v := (-1000000002 : Int32)) hx hb hown (hts (.constant RX5 100 (-1000000002)) (List.mem_of_getElem? (i := 3) rfl)) dX5_text_32 ?_
        exact W.iret (v := (-1000000002 : Int32)) hx hb hr (fun t ht hW => ⟨⟨(-1000000002 : Int32), (u, lt, sj), rfl, ⟨hRM, by rw [txtA, if_neg (fun q => q.1 rfl), if_pos (by first | exact Or.inl c17 | exact Or.inr (what3_n hn26))]⟩, show PP G (mw G h u lt sj) t.heap by rw [ht]; exact hP⟩, hS.F ht⟩) hS.2.2 dX5_text_34
  · skip
    refine lv_aload_n hx hb dX5_text_5 rfl (lv_at hl 0 rfl) ?_
    refine lv_iload_n hx hb dX5_text_6 rfl (lv_at hl 1 rfl) ?_
    refine cRi (w := mw G h u lt sj) (As := [.int a]) (rest := []) ⟨hx, hb, hml, hown, hts⟩ (mt_X5_isVersion l G h u lt sj (sg.1 0) a (hnv) (by first | assumption | omega)) (cwV 1 hts gX5_text_X5_isVersion rfl rfl rfl ⟨rfl, hd_X5_isVersion⟩ ⟨Nat.le_of_ble_eq_true rfl, Nat.le_of_ble_eq_true rfl⟩) hK hN hP 0 5 rfl rfl rfl hl.1 rfl (Nat.le_of_ble_eq_true rfl) ⟨Nat.zero_le _, Nat.zero_le _⟩ dX5_text_7 (fun r7 hw7 => ?_)
    rcases hw7 with ⟨rfl, a1, ha1, rfl⟩ | ⟨rfl, hna1⟩
    · skip
      refine lv_if_ne (tgt := 16) hx hb dX5_text_10 (by decide) (fun _ => ?_) (fun c9 => absurd c9 (by decide))
      refine lv_iload_n hx hb dX5_text_16 rfl (lv_at hl 2 rfl) ?_
      refine lv_if_lt (tgt := 32) hx hb dX5_text_17 (by decide) (fun c17 => ?_) (fun c17 => ?_)
      · skip
        refine lv_ldc (v := (-1000000002 : Int32)) hx hb hown (hts (.constant RX5 100 (-1000000002)) (List.mem_of_getElem? (i := 3) rfl)) dX5_text_32 ?_
        exact W.iret (v := (-1000000002 : Int32)) hx hb hr (fun t ht hW => ⟨⟨(-1000000002 : Int32), (u, lt, sj), rfl, ⟨hRM, by rw [txtA, if_neg (fun q => q.2 (inR_t ha1 (by omega))), if_pos (by first | exact Or.inl c17 | exact Or.inr (what3_n hn26))]⟩, show PP G (mw G h u lt sj) t.heap by rw [ht]; exact hP⟩, hS.F ht⟩) hS.2.2 dX5_text_34
      · skip
        obtain ⟨i17, hi17, rfl⟩ := nI_of c17
        refine lv_iload_n hx hb dX5_text_20 rfl (lv_at hl 3 rfl) ?_
        refine lv_i2l (v := what.toInt64) hx hb dX5_text_21 rfl ?_
        refine lv_lconst (v := 0) hx hb dX5_text_22 (by decide) ?_
        refine lv_ldc2 (v := 2) hx hb hown (hts (.constantLong RX5 223 (2)) (List.mem_of_getElem? (i := 2) rfl)) dX5_text_23 ?_
        refine cSi (As := [.long what.toInt64, .long 0, .long 2]) (rest := []) ⟨hx, hb, hml, hown, hts⟩ (mt_X5_in l what.toInt64 0 2) (va_cwS 3 hts gX5_text_X5_in rfl rfl rfl hd_X5_in ⟨Nat.le_of_ble_eq_true rfl, Nat.le_of_ble_eq_true rfl⟩) rfl hl.1 rfl (Nat.le_of_ble_eq_true rfl) ⟨Nat.zero_le _, Nat.zero_le _⟩ dX5_text_26 (fun r26 hw26 => ?_)
        rcases hw26 with ⟨rfl, ha26, hb26⟩ | ⟨rfl, hn26⟩
        · skip
          refine lv_if_ne (tgt := 35) hx hb dX5_text_29 (by decide) (fun _ => ?_) (fun c9 => absurd c9 (by decide))
          refine lv_iload_n hx hb dX5_text_35 rfl (lv_at hl 1 rfl) ?_
          refine lv_iconst (v := (-1 : Int32)) hx hb dX5_text_36 (by decide) ?_
          refine lv_icmp_ne (tgt := 50) hx hb dX5_text_37 (by decide) (fun _ => ?_) (fun c9 => absurd c9 (nI_nm1 (by omega)))
          refine lv_aload_n hx hb dX5_text_50 rfl (lv_at hl 0 rfl) ?_
          refine lv_aload_n hx hb dX5_text_51 rfl (lv_at hl 0 rfl) ?_
          refine lv_iload_n hx hb dX5_text_52 rfl (lv_at hl 1 rfl) ?_
          refine lv_iconst (v := (-1 : Int32)) hx hb dX5_text_53 (by decide) ?_
          refine lv_icmp_ne (tgt := 64) hx hb dX5_text_54 (by decide) (fun _ => ?_) (fun c9 => absurd c9 (nI_nm1 (by omega)))
          refine lv_iload_n hx hb dX5_text_64 rfl (lv_at hl 1 rfl) ?_
          have hP := mw_self26 hP
          have hD : va_D A (mw G h (oA u 26 (u.2 26)) lt sj) := mw_self26D hD
          refine cXi (As := [.int (nI a1)]) (rest := [.ref (h 0)]) (S := oS × Int64 × (Nat → Int64)) (wa := mw G h (oA u 26 (u.2 26)) lt sj) (w1 := fun v => mw G h v.1 v.2.1 v.2.2) ⟨hx, hb, hml, hown, hts⟩ (mt_X5_changesOf l G h _ u lt sj (u.2 26) a1 (by first | assumption | omega) (hparV.le (by omega))) (cwV 1 hts gX5_text_X5_changesOf rfl rfl rfl ⟨rfl, hd_X5_changesOf⟩ ⟨Nat.le_of_ble_eq_true rfl, Nat.le_of_ble_eq_true rfl⟩) hK hN hP hD hS hA (fun _ => rfl) 0 5 rfl rfl rfl hl.1 rfl (Nat.le_of_ble_eq_true rfl) ⟨Nat.zero_le _, Nat.zero_le _⟩ dX5_text_65 (fun r65 u65 H locs hw65 hP hD hS => ?_)
          obtain ⟨g65, rfl, rfl⟩ := hw65
          have hP : PP G (mw G h (oA u 26 g65) lt sj) H := hP
          have hD : va_D A (mw G h (oA u 26 g65) lt sj) := hD
          refine lv_iload_n hx hb dX5_text_68 rfl (lv_at hl 2 rfl) ?_
          refine cRi (w := mw G h (oA u 26 g65) lt sj) (As := [.int (chV (u.2 1) (u.2 2) (u.2 3) (nI a1)), .int (nI i17)]) (rest := []) ⟨hx, hb, hml, hown, hts⟩ (mt_X5_lineAt l G h (oA u 26 g65) lt sj (sg.1 4) (chV (u.2 1) (u.2 2) (u.2 3) (nI a1)) i17 (hnl) (by first | assumption | omega) (by first | assumption | omega)) (cwV 2 hts gX5_text_X5_lineAt rfl rfl rfl ⟨rfl, hd_X5_lineAt⟩ ⟨Nat.le_of_ble_eq_true rfl, Nat.le_of_ble_eq_true rfl⟩) hK hN hP 0 5 rfl rfl rfl hl.1 rfl (Nat.le_of_ble_eq_true rfl) ⟨Nat.zero_le _, Nat.zero_le _⟩ dX5_text_69 (fun r69 hw69 => ?_)
          rcases hw69 with ⟨i69, hi69, hp69, hq69, rfl⟩ | ⟨hq69, rfl⟩
          · skip
            refine lv_istore (lv' := [(4, .int (nI (i69))), (0, .ref (h 0)), (1, .int (nI a1)), (2, .int (nI i17)), (3, .int what)]) hx hb dX5_text_72 hl (by decide) rfl (fun ls hl => ?_)
            refine lv_iload hx hb dX5_text_74 (lv_at hl 0 rfl) ?_
            refine lv_if_ge (tgt := 81) hx hb dX5_text_76 (by decide) (fun _ => ?_) (fun c9 => absurd (nI_pos' (by omega)) c9)
            refine lv_iload_n hx hb dX5_text_81 rfl (lv_at hl 4 rfl) ?_
            refine lv_if_ne (tgt := 95) hx hb dX5_text_82 (by decide) (fun c82 => ?_) (fun c82 => ?_)
            · skip
              refine lv_iload_n hx hb dX5_text_95 rfl (lv_at hl 4 rfl) ?_
              refine lv_iconst (v := (1 : Int32)) hx hb dX5_text_96 (by decide) ?_
              refine lv_icmp_ne (tgt := 110) hx hb dX5_text_97 (by decide) (fun c97 => ?_) (fun c97 => ?_)
              · skip
                refine lv_iload hx hb dX5_text_110 (lv_at hl 0 rfl) ?_
                exact W.iret (v := nI (i69)) hx hb hr (fun t ht hW => ⟨⟨nI (i69), (oA u 26 g65, lt, sj), rfl, ⟨RepM_26 _ hRM, by rw [txtA, if_neg (fun q => q.2 (inR_t ha1 (by omega))), if_neg (fun q => by rcases q with q | q; exact absurd q (nI_pos (by omega)); exact q (what3_y ha26 hb26)), if_neg (fun q => nI_nm1 (by omega) q.1), if_neg (nI_nm1 (by omega)), vN_n (j := a1) (by omega), vN_n' (j := i17) (by omega), txtB, ← (hC.cv (i := a1) hic (by omega)), ← fndN_c _ _ (hC.sd _), show fndN (sdb (u.2 6) (u.2 7) (chV (u.2 1) (u.2 2) (u.2 3) (nI a1))) (sg.1 4) i17 = i69 from fndN_hit hp69 hq69 hi69, if_pos hi69]; first | (rw [if_pos c82]; exact hC.2.2.2.2.2.1 i69 hi69) | (rw [if_neg c82, if_pos c97]; exact hC.2.2.2.2.2.2.1 i69 hi69) | rw [if_neg c82, if_neg c97]⟩, show PP G (mw G h (oA u 26 g65) lt sj) t.heap by rw [ht]; exact hP⟩, hS.F ht⟩) hS.2.2 dX5_text_112
              · skip
                refine lv_aload_n hx hb dX5_text_100 rfl (lv_at hl 1 rfl) ?_
                refine va_get (D := gD G) (ci := 5) (v := .ref (h 6)) (C := RX5) (T := TX5) (N := 38) hx hb hts hiX5 hown hK hP 0 rfl rfl 6 (by decide) k22 (fun _ h9 => h9) rfl dX5_text_101 ?_
                refine lv_iload hx hb dX5_text_104 (lv_at hl 0 rfl) ?_
                refine ialdN (f := u.2 6) (n := 120) (k := i69) hx hb hK hP 5 rfl rfl (by omega) dX5_text_106 ?_
                refine lv_goto (tgt := 112) hx hb dX5_text_107 (by decide) ?_
                exact W.iret (v := (u.2 6) i69) hx hb hr (fun t ht hW => ⟨⟨(u.2 6) i69, (oA u 26 g65, lt, sj), rfl, ⟨RepM_26 _ hRM, by rw [txtA, if_neg (fun q => q.2 (inR_t ha1 (by omega))), if_neg (fun q => by rcases q with q | q; exact absurd q (nI_pos (by omega)); exact q (what3_y ha26 hb26)), if_neg (fun q => nI_nm1 (by omega) q.1), if_neg (nI_nm1 (by omega)), vN_n (j := a1) (by omega), vN_n' (j := i17) (by omega), txtB, ← (hC.cv (i := a1) hic (by omega)), ← fndN_c _ _ (hC.sd _), show fndN (sdb (u.2 6) (u.2 7) (chV (u.2 1) (u.2 2) (u.2 3) (nI a1))) (sg.1 4) i17 = i69 from fndN_hit hp69 hq69 hi69, if_pos hi69]; first | (rw [if_pos c82]; exact hC.2.2.2.2.2.1 i69 hi69) | (rw [if_neg c82, if_pos c97]; exact hC.2.2.2.2.2.2.1 i69 hi69) | rw [if_neg c82, if_neg c97]⟩, show PP G (mw G h (oA u 26 g65) lt sj) t.heap by rw [ht]; exact hP⟩, hS.F ht⟩) hS.2.2 dX5_text_112
            · skip
              refine lv_aload_n hx hb dX5_text_85 rfl (lv_at hl 1 rfl) ?_
              refine va_get (D := gD G) (ci := 5) (v := .ref (h 5)) (C := RX5) (T := TX5) (N := 38) hx hb hts hiX5 hown hK hP 0 rfl rfl 5 (by decide) k19 (fun _ h9 => h9) rfl dX5_text_86 ?_
              refine lv_iload hx hb dX5_text_89 (lv_at hl 0 rfl) ?_
              refine ialdN (f := u.2 5) (n := 120) (k := i69) hx hb hK hP 4 rfl rfl (by omega) dX5_text_91 ?_
              refine lv_goto (tgt := 112) hx hb dX5_text_92 (by decide) ?_
              exact W.iret (v := (u.2 5) i69) hx hb hr (fun t ht hW => ⟨⟨(u.2 5) i69, (oA u 26 g65, lt, sj), rfl, ⟨RepM_26 _ hRM, by rw [txtA, if_neg (fun q => q.2 (inR_t ha1 (by omega))), if_neg (fun q => by rcases q with q | q; exact absurd q (nI_pos (by omega)); exact q (what3_y ha26 hb26)), if_neg (fun q => nI_nm1 (by omega) q.1), if_neg (nI_nm1 (by omega)), vN_n (j := a1) (by omega), vN_n' (j := i17) (by omega), txtB, ← (hC.cv (i := a1) hic (by omega)), ← fndN_c _ _ (hC.sd _), show fndN (sdb (u.2 6) (u.2 7) (chV (u.2 1) (u.2 2) (u.2 3) (nI a1))) (sg.1 4) i17 = i69 from fndN_hit hp69 hq69 hi69, if_pos hi69]; first | (rw [if_pos c82]; exact hC.2.2.2.2.2.1 i69 hi69) | (rw [if_neg c82, if_pos c97]; exact hC.2.2.2.2.2.2.1 i69 hi69) | rw [if_neg c82, if_neg c97]⟩, show PP G (mw G h (oA u 26 g65) lt sj) t.heap by rw [ht]; exact hP⟩, hS.F ht⟩) hS.2.2 dX5_text_112
          · skip
            refine lv_istore (lv' := [(4, .int (-1 : Int32)), (0, .ref (h 0)), (1, .int (nI a1)), (2, .int (nI i17)), (3, .int what)]) hx hb dX5_text_72 hl (by decide) rfl (fun ls hl => ?_)
            refine lv_iload hx hb dX5_text_74 (lv_at hl 0 rfl) ?_
            refine lv_if_ge (tgt := 81) hx hb dX5_text_76 (by decide) (fun c9 => absurd c9 (by decide)) (fun _ => ?_)
            refine lv_iconst (v := (-1 : Int32)) hx hb dX5_text_79 (by decide) ?_
            exact W.iret (v := (-1 : Int32)) hx hb hr (fun t ht hW => ⟨⟨(-1 : Int32), (oA u 26 g65, lt, sj), rfl, ⟨RepM_26 _ hRM, by rw [txtA, if_neg (fun q => q.2 (inR_t ha1 (by omega))), if_neg (fun q => by rcases q with q | q; exact absurd q (nI_pos (by omega)); exact q (what3_y ha26 hb26)), if_neg (fun q => nI_nm1 (by omega) q.1), if_neg (nI_nm1 (by omega)), vN_n (j := a1) (by omega), vN_n' (j := i17) (by omega), txtB, ← (hC.cv (i := a1) hic (by omega)), ← fndN_c _ _ (hC.sd _), show fndN (sdb (u.2 6) (u.2 7) (chV (u.2 1) (u.2 2) (u.2 3) (nI a1))) (sg.1 4) i17 = sg.1 4 from fndN_miss hq69, if_neg (Nat.lt_irrefl _)]⟩, show PP G (mw G h (oA u 26 g65) lt sj) t.heap by rw [ht]; exact hP⟩, hS.F ht⟩) hS.2.2 dX5_text_80
        · skip
          refine lv_if_ne (tgt := 35) hx hb dX5_text_29 (by decide) (fun c9 => absurd (by decide) c9) (fun _ => ?_)
          refine lv_ldc (v := (-1000000002 : Int32)) hx hb hown (hts (.constant RX5 100 (-1000000002)) (List.mem_of_getElem? (i := 3) rfl)) dX5_text_32 ?_
          exact W.iret (v := (-1000000002 : Int32)) hx hb hr (fun t ht hW => ⟨⟨(-1000000002 : Int32), (u, lt, sj), rfl, ⟨hRM, by rw [txtA, if_neg (fun q => q.2 (inR_t ha1 (by omega))), if_pos (by first | exact Or.inl c17 | exact Or.inr (what3_n hn26))]⟩, show PP G (mw G h u lt sj) t.heap by rw [ht]; exact hP⟩, hS.F ht⟩) hS.2.2 dX5_text_34
    · skip
      refine lv_if_ne (tgt := 16) hx hb dX5_text_10 (by decide) (fun c9 => absurd (by decide) c9) (fun _ => ?_)
      refine lv_ldc (v := (-1000000001 : Int32)) hx hb hown (hts (.constant RX5 216 (-1000000001)) (List.mem_of_getElem? (i := 1) rfl)) dX5_text_13 ?_
      exact W.iret (v := (-1000000001 : Int32)) hx hb hr (fun t ht hW => ⟨⟨(-1000000001 : Int32), (u, lt, sj), rfl, ⟨hRM, by rw [txtA, if_pos ⟨c2, inR_f (by omega) hna1⟩]⟩, show PP G (mw G h u lt sj) t.heap by rw [ht]; exact hP⟩, hS.F ht⟩) hS.2.2 dX5_text_15
theorem olS_M {u : oS} {s : pS} (h : CM u s (s.1 0 + 1)) (hI : IC s (s.1 0 + 1)) : cnt (sdb (u.2 6) (u.2 7) (chV (u.2 1) (u.2 2) (u.2 3) (nI (s.1 0)))) (s.1 4) = olS s := by
  rw [h.cv hI (Nat.lt_succ_self _)]
  exact h.nl _
theorem CM.inc {u : oS} {s : pS} {v : Nat} (h : CM u s (s.1 0 + 1)) : CM (oA (oA u 3 (upd (u.2 3) (s.1 0) (u.2 3 (s.1 0) &&& (b1 v ^^^ (-1))))) 2 (upd (u.2 2) (s.1 0) (u.2 2 (s.1 0) ||| b1 v))) (sInc s v) (s.1 0 + 1) := by
  obtain ⟨h1, h2, h3, h4, h5, h6, h7, h8⟩ := h
  exact ⟨h1, h2, h3, rwE_updk h4 (by rw [h4 _ (Nat.lt_succ_self _)]), rwE_updk h5 (by rw [h5 _ (Nat.lt_succ_self _)]), h6, h7, h8⟩
theorem CM.exc {u : oS} {s : pS} {v : Nat} (h : CM u s (s.1 0 + 1)) : CM (oA (oA u 2 (upd (u.2 2) (s.1 0) (u.2 2 (s.1 0) &&& (b1 v ^^^ (-1))))) 3 (upd (u.2 3) (s.1 0) (u.2 3 (s.1 0) ||| b1 v))) (sExc s v) (s.1 0 + 1) := by
  obtain ⟨h1, h2, h3, h4, h5, h6, h7, h8⟩ := h
  exact ⟨h1, h2, h3, rwE_updk h4 (by rw [h4 _ (Nat.lt_succ_self _)]), rwE_updk h5 (by rw [h5 _ (Nat.lt_succ_self _)]), h6, h7, h8⟩
theorem RepM_lea {u : oS} {sj : Nat → Int64} {s : pS} {zz : Nat → Nat → Int64} {nh : Nat} (h : RepM u sj s zz) (ho : s.1 8 = 1) (hn : u.1 27 = nI nh) (hI : IS s) (hh : nh ≤ 120) : RepM (oA (oA (oA (oI (oI u 8 (nI 0)) 4 (nI nh)) 5 (cpr (u.2 28) (u.2 5) nh)) 6 (cpr (u.2 29) (u.2 6) nh)) 7 (cpr (u.2 30) (u.2 7) nh)) sj (sLeave s) zz := by
  obtain ⟨⟨c1, c2, c3, c4, c5, c6, c7, c8⟩, h8, h10, h9, h11, hH, h27, hm0, hm1, hs⟩ := h
  obtain ⟨a, b, c, d⟩ := hH ho
  have e : nh = s.1 27 := nI_inj5 (by omega) (by have := hI.2.2.2.2.2.2.2.1; omega) (hn.symm.trans a)
  subst e
  exact ⟨⟨c1, rfl, c3.le (by show s.1 0 + 0 ≤ _; omega), c4.le (by show s.1 0 + 0 ≤ _; omega), c5.le (by show s.1 0 + 0 ≤ _; omega), rwE_cpr b, rwE_cpr c, rwE_cpr d⟩, rfl, h10, h9, h11, fun e => absurd e (show ¬ (0 : Nat) = 1 by decide), h27, hm0, hm1, hs.f4 rfl rfl rfl rfl rfl rfl⟩

set_option maxHeartbeats 1000000 in
set_option maxRecDepth 100000 in
theorem mt_X5_openS (l : Launch) (G : gG) (h : Nat → Nat) (sz : Nat) (u : oS) (lt : Int64) (sj : Nat → Int64) (sg : pS) (zz : Nat → Nat → Int64) (a : Int32) (nh : Nat) (hI : MIx u (sg.1 0) (sg.1 4) (sg.1 10) nh) (hIS : IS sg) (hRM : RepM u sj sg zz) : Met l yX5_open wsX5_open ({ frames := 2, cells := 0, slots := 0, locals := 46 }) (preW G (mw G h u lt sj) sz [.ref (h 0), .int a]) (va_Qi (fun (r : Int32) (v : oS × Int64 × (Nat → Int64)) => RepM v.1 v.2.2 (opnF sg a) (zz) ∧ r = opnA sg a) (fun v t => PP G (mw G h v.1 v.2.1 v.2.2) t.heap) (va_A (mw G h u lt sj) sz)) 0 0 (va_A (mw G h u lt sj) sz) := by
  refine Met.ofW (cc := cX5_open) (maxL := 2) (ret := (some .int)) (by decide) rfl ?_
  intro p e s m args below meth c s₁ B hml hv
  obtain ⟨ha, hsz, hP, hK, hN, hD0⟩ := hv
  subst ha
  have hx := B.exec
  have hb := B.bytes
  have hr := B.returns
  have hts := atoms_spec (ws := wsX5_open) B.pre
  have hown : s.vm.findClass RX5 = some m.cls := findClass_of_methodNamed B.named
  have hlocks := B.notSynchronized
  subst hsz
  have hD := hD0.self (sz := s.heap.size)
  generalize hAe : va_A (mw G h u lt sj) s.heap.size = A at hD ⊢
  have hA : ∀ q : Nat, s.heap.size ≤ q → A q := fun q h => by rw [← hAe]; exact Or.inr h
  clear hAe hD0
  have hS : va_S A s.heap s.heap [] := va_S.rf
  have hiX5 : ∀ w ∈ wsX50, w ∈ wsX5_open := fun w h9 => List.mem_cons_of_mem _ (List.mem_append_right _ (h9))
  have k178 := hts (.fieldLink RX5 178 "WovenHistoryModel" "isOpen" "Z") (List.mem_of_getElem? (i := 2) rfl)
  have k91 := hts (.fieldLink RX5 91 "WovenHistoryModel" "versions" "I") (List.mem_of_getElem? (i := 4) rfl)
  have hl := lv_entry ([.ref (h 0), .int a]) (n := 2) (Nat.le_of_ble_eq_true rfl)
  rw [lg_entry_eq]
  generalize (lg_sl ([.ref (h 0), .int a]) ++ List.replicate (2 - (lg_sl ([.ref (h 0), .int a])).length) Slot.unset).toArray = ls at hl ⊢
  have hl : lv_has ls 2 [(0, .ref (h 0)), (1, .int a)] := hl
  have hC := hRM.1
  have hic := hIS.ic
  have hle8 := hIS.2.2.1
  have h8e := hRM.2.1
  have hI0 := hI
  obtain ⟨hnv, hnl, hnt, hnh, hnv24, hnl120, hnt240, hnh120, hop, hopn, hparV, hsz4, himg⟩ := hI
  refine lv_iload_n hx hb dX5_open_0 rfl (lv_at hl 1 rfl) ?_
  refine lv_iconst (v := (-1 : Int32)) hx hb dX5_open_1 (by decide) ?_
  refine lv_icmp_eq (tgt := 16) hx hb dX5_open_2 (by decide) (fun c2 => ?_) (fun c2 => ?_)
  · skip
    subst c2
    refine lv_aload_n hx hb dX5_open_16 rfl (lv_at hl 0 rfl) ?_
    refine va_get (D := gD G) (ci := 5) (v := .int (u.1 8)) (C := RX5) (T := TX5) (N := 38) hx hb hts hiX5 hown hK hP 0 rfl rfl 8 (by decide) k178 (fun _ h9 => h9) rfl dX5_open_17 ?_
    refine lv_if_eq (tgt := 26) hx hb dX5_open_20 (by decide) (fun c20 => ?_) (fun c20 => ?_)
    · skip
      refine lv_aload_n hx hb dX5_open_26 rfl (lv_at hl 0 rfl) ?_
      refine va_get (D := gD G) (ci := 5) (v := .int (u.1 0)) (C := RX5) (T := TX5) (N := 38) hx hb hts hiX5 hown hK hP 0 rfl rfl 0 (by decide) k91 (fun _ h9 => h9) rfl dX5_open_27 ?_
      refine topE hnv ?_
      refine lv_bipush (v := nI 24) hx hb dX5_open_30 (by decide) ?_
      refine lv_icmp_ne (tgt := 38) hx hb dX5_open_32 (by decide) (fun c32 => ?_) (fun c32 => ?_)
      · skip
        have n32 : ¬ ((sg.1 0) = 24) := fun q9 => c32 ((nI_eq (a := sg.1 0) (b := 24) (by omega) (by omega)).mpr q9)
        refine lv_aload_n hx hb dX5_open_38 rfl (lv_at hl 0 rfl) ?_
        refine lv_iload_n hx hb dX5_open_39 rfl (lv_at hl 1 rfl) ?_
        refine cXv (As := [.int (-1 : Int32)]) (rest := []) (S := oS × Int64 × (Nat → Int64)) (wa := mw G h u lt sj) (w1 := fun v => mw G h v.1 v.2.1 v.2.2) ⟨hx, hb, hml, hown, hts⟩ (mt_X5_openNow l G h _ u lt sj (sg.1 0) (sg.1 4) (-1 : Int32) (hnv) (hnl) (by first | assumption | omega) (by first | assumption | omega)) (cwV 1 hts gX5_open_X5_openNow rfl rfl rfl ⟨rfl, hd_X5_openNow⟩ ⟨Nat.le_of_ble_eq_true rfl, Nat.le_of_ble_eq_true rfl⟩) hK hN hP hD hS hA (fun _ => rfl) 0 5 rfl rfl rfl hl.1 rfl (Nat.le_of_ble_eq_true rfl) ⟨Nat.zero_le _, Nat.zero_le _⟩ dX5_open_40 (fun u40 H locs hw40 hP hD hS => ?_)
        obtain rfl := hw40
        have hP : PP G (mw G h (opU u (sg.1 0) (sg.1 4) (-1 : Int32)) lt sj) H := hP
        have hD : va_D A (mw G h (opU u (sg.1 0) (sg.1 4) (-1 : Int32)) lt sj) := hD
        refine lv_aload_n hx hb dX5_open_43 rfl (lv_at hl 0 rfl) ?_
        refine va_get (D := gD G) (ci := 5) (v := .int ((opU u (sg.1 0) (sg.1 4) (-1 : Int32)).1 0)) (C := RX5) (T := TX5) (N := 38) hx hb hts hiX5 hown hK hP 0 rfl rfl 0 (by decide) k91 (fun _ h9 => h9) rfl dX5_open_44 ?_
        refine topE hnv ?_
        exact W.iret (v := nI (sg.1 0)) hx hb hr (fun t ht hW => ⟨⟨nI (sg.1 0), (opU u (sg.1 0) (sg.1 4) (-1 : Int32), lt, sj), rfl, ⟨by rw [opnF, if_neg (fun q => q.1 rfl), if_neg (not_not_intro (nI_z (by omega) (h8e.symm.trans c20))), if_neg n32]; exact RepM_opn hRM hIS (nI_z (by omega) (h8e.symm.trans c20)), by rw [opnA, if_neg (fun q => q.1 rfl), if_neg (not_not_intro (nI_z (by omega) (h8e.symm.trans c20))), if_neg n32]⟩, show PP G (mw G h (opU u (sg.1 0) (sg.1 4) (-1 : Int32)) lt sj) t.heap by rw [ht]; exact hP⟩, hS.F ht⟩) hS.2.2 dX5_open_47
      · skip
        have n32 : (sg.1 0) = 24 := (nI_eq (a := sg.1 0) (b := 24) (by omega) (by omega)).mp c32
        refine lv_ldc (v := (-1000000004 : Int32)) hx hb hown (hts (.constant RX5 104 (-1000000004)) (List.mem_of_getElem? (i := 5) rfl)) dX5_open_35 ?_
        exact W.iret (v := (-1000000004 : Int32)) hx hb hr (fun t ht hW => ⟨⟨(-1000000004 : Int32), (u, lt, sj), rfl, ⟨by rw [opnF, if_neg (fun q => q.1 rfl), if_neg (not_not_intro (nI_z (by omega) (h8e.symm.trans c20))), if_pos n32]; exact hRM, by rw [opnA, if_neg (fun q => q.1 rfl), if_neg (not_not_intro (nI_z (by omega) (h8e.symm.trans c20))), if_pos n32]⟩, show PP G (mw G h u lt sj) t.heap by rw [ht]; exact hP⟩, hS.F ht⟩) hS.2.2 dX5_open_37
    · skip
      refine lv_ldc (v := (-1000000003 : Int32)) hx hb hown (hts (.constant RX5 225 (-1000000003)) (List.mem_of_getElem? (i := 3) rfl)) dX5_open_23 ?_
      exact W.iret (v := (-1000000003 : Int32)) hx hb hr (fun t ht hW => ⟨⟨(-1000000003 : Int32), (u, lt, sj), rfl, ⟨by rw [opnF, if_neg (fun q => q.1 rfl), if_pos (fun q9 => c20 (h8e.trans (by rw [q9]; rfl)))]; exact hRM, by rw [opnA, if_neg (fun q => q.1 rfl), if_pos (fun q9 => c20 (h8e.trans (by rw [q9]; rfl)))]⟩, show PP G (mw G h u lt sj) t.heap by rw [ht]; exact hP⟩, hS.F ht⟩) hS.2.2 dX5_open_25
  · skip
    refine lv_aload_n hx hb dX5_open_5 rfl (lv_at hl 0 rfl) ?_
    refine lv_iload_n hx hb dX5_open_6 rfl (lv_at hl 1 rfl) ?_
    refine cRi (w := mw G h u lt sj) (As := [.int a]) (rest := []) ⟨hx, hb, hml, hown, hts⟩ (mt_X5_isVersion l G h u lt sj (sg.1 0) a (hnv) (by first | assumption | omega)) (cwV 1 hts gX5_open_X5_isVersion rfl rfl rfl ⟨rfl, hd_X5_isVersion⟩ ⟨Nat.le_of_ble_eq_true rfl, Nat.le_of_ble_eq_true rfl⟩) hK hN hP 0 5 rfl rfl rfl hl.1 rfl (Nat.le_of_ble_eq_true rfl) ⟨Nat.zero_le _, Nat.zero_le _⟩ dX5_open_7 (fun r7 hw7 => ?_)
    rcases hw7 with ⟨rfl, a1, ha1, rfl⟩ | ⟨rfl, hna1⟩
    · skip
      refine lv_if_ne (tgt := 16) hx hb dX5_open_10 (by decide) (fun _ => ?_) (fun c9 => absurd c9 (by decide))
      refine lv_aload_n hx hb dX5_open_16 rfl (lv_at hl 0 rfl) ?_
      refine va_get (D := gD G) (ci := 5) (v := .int (u.1 8)) (C := RX5) (T := TX5) (N := 38) hx hb hts hiX5 hown hK hP 0 rfl rfl 8 (by decide) k178 (fun _ h9 => h9) rfl dX5_open_17 ?_
      refine lv_if_eq (tgt := 26) hx hb dX5_open_20 (by decide) (fun c20 => ?_) (fun c20 => ?_)
      · skip
        refine lv_aload_n hx hb dX5_open_26 rfl (lv_at hl 0 rfl) ?_
        refine va_get (D := gD G) (ci := 5) (v := .int (u.1 0)) (C := RX5) (T := TX5) (N := 38) hx hb hts hiX5 hown hK hP 0 rfl rfl 0 (by decide) k91 (fun _ h9 => h9) rfl dX5_open_27 ?_
        refine topE hnv ?_
        refine lv_bipush (v := nI 24) hx hb dX5_open_30 (by decide) ?_
        refine lv_icmp_ne (tgt := 38) hx hb dX5_open_32 (by decide) (fun c32 => ?_) (fun c32 => ?_)
        · skip
          have n32 : ¬ ((sg.1 0) = 24) := fun q9 => c32 ((nI_eq (a := sg.1 0) (b := 24) (by omega) (by omega)).mpr q9)
          refine lv_aload_n hx hb dX5_open_38 rfl (lv_at hl 0 rfl) ?_
          refine lv_iload_n hx hb dX5_open_39 rfl (lv_at hl 1 rfl) ?_
          refine cXv (As := [.int (nI a1)]) (rest := []) (S := oS × Int64 × (Nat → Int64)) (wa := mw G h u lt sj) (w1 := fun v => mw G h v.1 v.2.1 v.2.2) ⟨hx, hb, hml, hown, hts⟩ (mt_X5_openNow l G h _ u lt sj (sg.1 0) (sg.1 4) (nI a1) (hnv) (hnl) (by first | assumption | omega) (by first | assumption | omega)) (cwV 1 hts gX5_open_X5_openNow rfl rfl rfl ⟨rfl, hd_X5_openNow⟩ ⟨Nat.le_of_ble_eq_true rfl, Nat.le_of_ble_eq_true rfl⟩) hK hN hP hD hS hA (fun _ => rfl) 0 5 rfl rfl rfl hl.1 rfl (Nat.le_of_ble_eq_true rfl) ⟨Nat.zero_le _, Nat.zero_le _⟩ dX5_open_40 (fun u40 H locs hw40 hP hD hS => ?_)
          obtain rfl := hw40
          have hP : PP G (mw G h (opU u (sg.1 0) (sg.1 4) (nI a1)) lt sj) H := hP
          have hD : va_D A (mw G h (opU u (sg.1 0) (sg.1 4) (nI a1)) lt sj) := hD
          refine lv_aload_n hx hb dX5_open_43 rfl (lv_at hl 0 rfl) ?_
          refine va_get (D := gD G) (ci := 5) (v := .int ((opU u (sg.1 0) (sg.1 4) (nI a1)).1 0)) (C := RX5) (T := TX5) (N := 38) hx hb hts hiX5 hown hK hP 0 rfl rfl 0 (by decide) k91 (fun _ h9 => h9) rfl dX5_open_44 ?_
          refine topE hnv ?_
          exact W.iret (v := nI (sg.1 0)) hx hb hr (fun t ht hW => ⟨⟨nI (sg.1 0), (opU u (sg.1 0) (sg.1 4) (nI a1), lt, sj), rfl, ⟨by rw [opnF, if_neg (fun q => q.2 (inR_t ha1 (by omega))), if_neg (not_not_intro (nI_z (by omega) (h8e.symm.trans c20))), if_neg n32]; exact RepM_opn hRM hIS (nI_z (by omega) (h8e.symm.trans c20)), by rw [opnA, if_neg (fun q => q.2 (inR_t ha1 (by omega))), if_neg (not_not_intro (nI_z (by omega) (h8e.symm.trans c20))), if_neg n32]⟩, show PP G (mw G h (opU u (sg.1 0) (sg.1 4) (nI a1)) lt sj) t.heap by rw [ht]; exact hP⟩, hS.F ht⟩) hS.2.2 dX5_open_47
        · skip
          have n32 : (sg.1 0) = 24 := (nI_eq (a := sg.1 0) (b := 24) (by omega) (by omega)).mp c32
          refine lv_ldc (v := (-1000000004 : Int32)) hx hb hown (hts (.constant RX5 104 (-1000000004)) (List.mem_of_getElem? (i := 5) rfl)) dX5_open_35 ?_
          exact W.iret (v := (-1000000004 : Int32)) hx hb hr (fun t ht hW => ⟨⟨(-1000000004 : Int32), (u, lt, sj), rfl, ⟨by rw [opnF, if_neg (fun q => q.2 (inR_t ha1 (by omega))), if_neg (not_not_intro (nI_z (by omega) (h8e.symm.trans c20))), if_pos n32]; exact hRM, by rw [opnA, if_neg (fun q => q.2 (inR_t ha1 (by omega))), if_neg (not_not_intro (nI_z (by omega) (h8e.symm.trans c20))), if_pos n32]⟩, show PP G (mw G h u lt sj) t.heap by rw [ht]; exact hP⟩, hS.F ht⟩) hS.2.2 dX5_open_37
      · skip
        refine lv_ldc (v := (-1000000003 : Int32)) hx hb hown (hts (.constant RX5 225 (-1000000003)) (List.mem_of_getElem? (i := 3) rfl)) dX5_open_23 ?_
        exact W.iret (v := (-1000000003 : Int32)) hx hb hr (fun t ht hW => ⟨⟨(-1000000003 : Int32), (u, lt, sj), rfl, ⟨by rw [opnF, if_neg (fun q => q.2 (inR_t ha1 (by omega))), if_pos (fun q9 => c20 (h8e.trans (by rw [q9]; rfl)))]; exact hRM, by rw [opnA, if_neg (fun q => q.2 (inR_t ha1 (by omega))), if_pos (fun q9 => c20 (h8e.trans (by rw [q9]; rfl)))]⟩, show PP G (mw G h u lt sj) t.heap by rw [ht]; exact hP⟩, hS.F ht⟩) hS.2.2 dX5_open_25
    · skip
      refine lv_if_ne (tgt := 16) hx hb dX5_open_10 (by decide) (fun c9 => absurd (by decide) c9) (fun _ => ?_)
      refine lv_ldc (v := (-1000000001 : Int32)) hx hb hown (hts (.constant RX5 216 (-1000000001)) (List.mem_of_getElem? (i := 1) rfl)) dX5_open_13 ?_
      exact W.iret (v := (-1000000001 : Int32)) hx hb hr (fun t ht hW => ⟨⟨(-1000000001 : Int32), (u, lt, sj), rfl, ⟨by rw [opnF, if_pos ⟨c2, inR_f (by omega) hna1⟩]; exact hRM, by rw [opnA, if_pos ⟨c2, inR_f (by omega) hna1⟩]⟩, show PP G (mw G h u lt sj) t.heap by rw [ht]; exact hP⟩, hS.F ht⟩) hS.2.2 dX5_open_15
set_option maxHeartbeats 1000000 in
set_option maxRecDepth 100000 in
theorem mt_X5_closeS (l : Launch) (G : gG) (h : Nat → Nat) (sz : Nat) (u : oS) (lt : Int64) (sj : Nat → Int64) (sg : pS) (zz : Nat → Nat → Int64) (nh : Nat) (hI : MIx u (sg.1 0) (sg.1 4) (sg.1 10) nh) (hIS : IS sg) (hRM : RepM u sj sg zz) : Met l yX5_close wsX5_close ({ frames := 0, cells := 0, slots := 0, locals := 0 }) (preW G (mw G h u lt sj) sz [.ref (h 0)]) (va_Qi (fun (r : Int32) (v : oS × Int64 × (Nat → Int64)) => RepM v.1 v.2.2 (clsF sg) (zz) ∧ r = clsA sg) (fun v t => PP G (mw G h v.1 v.2.1 v.2.2) t.heap) (va_A (mw G h u lt sj) sz)) 0 0 (va_A (mw G h u lt sj) sz) := by
  refine Met.ofW (cc := cX5_close) (maxL := 1) (ret := (some .int)) (by decide) rfl ?_
  intro p e s m args below meth c s₁ B hml hv
  obtain ⟨ha, hsz, hP, hK, hN, hD0⟩ := hv
  subst ha
  have hx := B.exec
  have hb := B.bytes
  have hr := B.returns
  have hts := atoms_spec (ws := wsX5_close) B.pre
  have hown : s.vm.findClass RX5 = some m.cls := findClass_of_methodNamed B.named
  have hlocks := B.notSynchronized
  subst hsz
  have hD := hD0.self (sz := s.heap.size)
  generalize hAe : va_A (mw G h u lt sj) s.heap.size = A at hD ⊢
  have hA : ∀ q : Nat, s.heap.size ≤ q → A q := fun q h => by rw [← hAe]; exact Or.inr h
  clear hAe hD0
  have hS : va_S A s.heap s.heap [] := va_S.rf
  have hiX5 : ∀ w ∈ wsX50, w ∈ wsX5_close := fun w h9 => List.mem_cons_of_mem _ (List.mem_append_right _ (h9))
  have k178 := hts (.fieldLink RX5 178 "WovenHistoryModel" "isOpen" "Z") (List.mem_of_getElem? (i := 1) rfl)
  have k91 := hts (.fieldLink RX5 91 "WovenHistoryModel" "versions" "I") (List.mem_of_getElem? (i := 3) rfl)
  have hl := lv_entry ([.ref (h 0)]) (n := 1) (Nat.le_of_ble_eq_true rfl)
  rw [lg_entry_eq]
  generalize (lg_sl ([.ref (h 0)]) ++ List.replicate (1 - (lg_sl ([.ref (h 0)])).length) Slot.unset).toArray = ls at hl ⊢
  have hl : lv_has ls 1 [(0, .ref (h 0))] := hl
  have hC := hRM.1
  have hic := hIS.ic
  have hle8 := hIS.2.2.1
  have h8e := hRM.2.1
  have hI0 := hI
  obtain ⟨hnv, hnl, hnt, hnh, hnv24, hnl120, hnt240, hnh120, hop, hopn, hparV, hsz4, himg⟩ := hI
  refine lv_aload_n hx hb dX5_close_0 rfl (lv_at hl 0 rfl) ?_
  refine va_get (D := gD G) (ci := 5) (v := .int (u.1 8)) (C := RX5) (T := TX5) (N := 38) hx hb hts hiX5 hown hK hP 0 rfl rfl 8 (by decide) k178 (fun _ h9 => h9) rfl dX5_close_1 ?_
  refine lv_if_ne (tgt := 10) hx hb dX5_close_4 (by decide) (fun c4 => ?_) (fun c4 => ?_)
  · skip
    refine lv_aload_n hx hb dX5_close_10 rfl (lv_at hl 0 rfl) ?_
    refine lv_iconst (v := nI 0) hx hb dX5_close_11 (by decide) ?_
    refine va_put (D := gD G) (ci := 5) (v := .int (nI 0)) (ty := .boolean) (C := RX5) (T := TX5) (N := 38) hx hb hts hiX5 tyX5 tyX5_ok nmX5 hown hK hP hD hS 0 rfl rfl 8 (by decide) k178 (fun _ h9 => h9) rfl (tyX5_ok 8 (by decide)) (rfl) (rfl) (Nat.le_of_ble_eq_true rfl) dX5_close_12 (fun H locs hP hD hS => ?_)
    have hP : PP G (mw G h (oI u 8 (nI 0)) lt sj) H := hP
    have hD : va_D A (mw G h (oI u 8 (nI 0)) lt sj) := hD
    refine lv_aload_n hx hb dX5_close_15 rfl (lv_at hl 0 rfl) ?_
    refine lv_dup hx hb dX5_close_16 rfl ?_
    refine va_get (D := gD G) (ci := 5) (v := .int ((oI u 8 (nI 0)).1 0)) (C := RX5) (T := TX5) (N := 38) hx hb hts hiX5 hown hK hP 0 rfl rfl 0 (by decide) k91 (fun _ h9 => h9) rfl dX5_close_17 ?_
    refine topE hnv ?_
    refine lv_iconst (v := nI 1) hx hb dX5_close_20 (by decide) ?_
    refine lv_iadd hx hb dX5_close_21 ?_
    refine topE (y := nI ((sg.1 0) + 1)) (nI_add (sg.1 0) 1) ?_
    refine va_put (D := gD G) (ci := 5) (v := .int (nI ((sg.1 0) + 1))) (ty := .int) (C := RX5) (T := TX5) (N := 38) hx hb hts hiX5 tyX5 tyX5_ok nmX5 hown hK hP hD hS 0 rfl rfl 0 (by decide) k91 (fun _ h9 => h9) rfl (tyX5_ok 0 (by decide)) (rfl) (rfl) (Nat.le_of_ble_eq_true rfl) dX5_close_22 (fun H locs hP hD hS => ?_)
    have hP : PP G (mw G h (oI (oI u 8 (nI 0)) 0 (nI ((sg.1 0) + 1))) lt sj) H := hP
    have hD : va_D A (mw G h (oI (oI u 8 (nI 0)) 0 (nI ((sg.1 0) + 1))) lt sj) := hD
    refine lv_aload_n hx hb dX5_close_25 rfl (lv_at hl 0 rfl) ?_
    refine va_get (D := gD G) (ci := 5) (v := .int (nI ((sg.1 0) + 1))) (C := RX5) (T := TX5) (N := 38) hx hb hts hiX5 hown hK hP 0 rfl rfl 0 (by decide) k91 (fun _ h9 => h9) rfl dX5_close_26 ?_
    refine lv_iconst (v := nI 1) hx hb dX5_close_29 (by decide) ?_
    refine lv_isub hx hb dX5_close_30 ?_
    refine topE (y := nI (((sg.1 0) + 1) - 1)) (pk_sub (by omega)) ?_
    exact W.iret (v := nI (((sg.1 0) + 1) - 1)) hx hb hr (fun t ht hW => ⟨⟨nI (((sg.1 0) + 1) - 1), (oI (oI u 8 (nI 0)) 0 (nI ((sg.1 0) + 1)), lt, sj), rfl, ⟨by rw [clsF, if_neg (fun q9 => c4 (h8e.trans (by rw [q9]; rfl)))]; exact RepM_cls hRM (show sg.1 8 = 1 by have h8 : ¬ sg.1 8 = 0 := (fun q9 => c4 (h8e.trans (by rw [q9]; rfl))); omega), by rw [clsA, if_neg (fun q9 => c4 (h8e.trans (by rw [q9]; rfl)))]; rfl⟩, show PP G (mw G h (oI (oI u 8 (nI 0)) 0 (nI ((sg.1 0) + 1))) lt sj) t.heap by rw [ht]; exact hP⟩, hS.F ht⟩) hS.2.2 dX5_close_31
  · skip
    refine lv_ldc (v := (-1000000003 : Int32)) hx hb hown (hts (.constant RX5 225 (-1000000003)) (List.mem_of_getElem? (i := 2) rfl)) dX5_close_7 ?_
    exact W.iret (v := (-1000000003 : Int32)) hx hb hr (fun t ht hW => ⟨⟨(-1000000003 : Int32), (u, lt, sj), rfl, ⟨by rw [clsF, if_pos (nI_z (by omega) (h8e.symm.trans c4))]; exact hRM, by rw [clsA, if_pos (nI_z (by omega) (h8e.symm.trans c4))]⟩, show PP G (mw G h u lt sj) t.heap by rw [ht]; exact hP⟩, hS.F ht⟩) hS.2.2 dX5_close_9
set_option maxHeartbeats 1000000 in
set_option maxRecDepth 100000 in
theorem mt_X5_isChangeF (l : Launch) (G : gG) (h : Nat → Nat) (sz : Nat) (u : oS) (lt : Int64) (sj : Nat → Int64) (g0 : Nat → Int32) (nv : Nat) (w : Int32) (hnv : u.1 0 = nI nv) (hnv24 : nv ≤ 24) (hpar : parOK (u.2 1) (nv + 1)) : Met l yX5_isChange wsX5_isChange ({ frames := 1, cells := 0, slots := 0, locals := 25 }) (preW G (mw G h (oA u 26 g0) lt sj) sz [.ref (h 0), .int w]) (va_Qi (fun (r : Int32) (v : oS × Int64 × (Nat → Int64)) => (∃ g, v = (oA u 26 g, lt, sj) ∧ r = 1 ∧ (chV (u.2 1) (u.2 2) (u.2 3) (nI nv) >>> (w &&& 31)) &&& 1 = 1) ∨ (∃ g, v = (oA u 26 g, lt, sj) ∧ r = 0 ∧ ¬ (chV (u.2 1) (u.2 2) (u.2 3) (nI nv) >>> (w &&& 31)) &&& 1 = 1)) (fun v t => PP G (mw G h v.1 v.2.1 v.2.2) t.heap) (va_A (mw G h (oA u 26 g0) lt sj) sz)) 0 0 (va_A (mw G h (oA u 26 g0) lt sj) sz) := by
  refine Met.ofW (cc := cX5_isChange) (maxL := 2) (ret := (some .boolean)) (by decide) rfl ?_
  intro p e s m args below meth c s₁ B hml hv
  obtain ⟨ha, hsz, hP, hK, hN, hD0⟩ := hv
  subst ha
  have hx := B.exec
  have hb := B.bytes
  have hr := B.returns
  have hts := atoms_spec (ws := wsX5_isChange) B.pre
  have hown : s.vm.findClass RX5 = some m.cls := findClass_of_methodNamed B.named
  have hlocks := B.notSynchronized
  subst hsz
  have hD := hD0.self (sz := s.heap.size)
  generalize hAe : va_A (mw G h (oA u 26 g0) lt sj) s.heap.size = A at hD ⊢
  have hA : ∀ q : Nat, s.heap.size ≤ q → A q := fun q h => by rw [← hAe]; exact Or.inr h
  clear hAe hD0
  have hS : va_S A s.heap s.heap [] := va_S.rf
  have hiX5 : ∀ w ∈ wsX50, w ∈ wsX5_isChange := fun w h9 => List.mem_cons_of_mem _ (List.mem_append_right _ (h9))
  have k91 := hts (.fieldLink RX5 91 "WovenHistoryModel" "versions" "I") (List.mem_of_getElem? (i := 1) rfl)
  have hl := lv_entry ([.ref (h 0), .int w]) (n := 2) (Nat.le_of_ble_eq_true rfl)
  rw [lg_entry_eq]
  generalize (lg_sl ([.ref (h 0), .int w]) ++ List.replicate (2 - (lg_sl ([.ref (h 0), .int w])).length) Slot.unset).toArray = ls at hl ⊢
  have hl : lv_has ls 2 [(0, .ref (h 0)), (1, .int w)] := hl
  refine lv_aload_n hx hb dX5_isChange_0 rfl (lv_at hl 0 rfl) ?_
  refine lv_aload_n hx hb dX5_isChange_1 rfl (lv_at hl 0 rfl) ?_
  refine va_get (D := gD G) (ci := 5) (v := .int (u.1 0)) (C := RX5) (T := TX5) (N := 38) hx hb hts hiX5 hown hK hP 0 rfl rfl 0 (by decide) k91 (fun _ h9 => h9) rfl dX5_isChange_2 ?_
  refine topE hnv ?_
  refine cXi (As := [.int (nI nv)]) (rest := []) (S := oS × Int64 × (Nat → Int64)) (wa := mw G h (oA u 26 g0) lt sj) (w1 := fun v => mw G h v.1 v.2.1 v.2.2) ⟨hx, hb, hml, hown, hts⟩ (mt_X5_changesOf l G h _ u lt sj g0 nv (by first | assumption | omega) (by first | assumption | omega)) (cwV 1 hts gX5_isChange_X5_changesOf rfl rfl rfl ⟨rfl, hd_X5_changesOf⟩ ⟨Nat.le_of_ble_eq_true rfl, Nat.le_of_ble_eq_true rfl⟩) hK hN hP hD hS hA (fun _ => rfl) 0 5 rfl rfl rfl hl.1 rfl (Nat.le_of_ble_eq_true rfl) ⟨Nat.zero_le _, Nat.zero_le _⟩ dX5_isChange_5 (fun r5 u5 H locs hw5 hP hD hS => ?_)
  obtain ⟨g5, rfl, rfl⟩ := hw5
  have hP : PP G (mw G h (oA u 26 g5) lt sj) H := hP
  have hD : va_D A (mw G h (oA u 26 g5) lt sj) := hD
  refine lv_iload_n hx hb dX5_isChange_8 rfl (lv_at hl 1 rfl) ?_
  refine cSi (As := [.int (chV (u.2 1) (u.2 2) (u.2 3) (nI nv)), .int w]) (rest := []) ⟨hx, hb, hml, hown, hts⟩ (mt_X5_has l (chV (u.2 1) (u.2 2) (u.2 3) (nI nv)) w) (va_cwS 2 hts gX5_isChange_X5_has rfl rfl rfl hd_X5_has ⟨Nat.le_of_ble_eq_true rfl, Nat.le_of_ble_eq_true rfl⟩) rfl hl.1 rfl (Nat.le_of_ble_eq_true rfl) ⟨Nat.zero_le _, Nat.zero_le _⟩ dX5_isChange_9 (fun r9 hw9 => ?_)
  rcases hw9 with ⟨rfl, hy9⟩ | ⟨rfl, hn9⟩
  · skip
    exact W.zret (v := (1 : Int32)) hx hb hr (by decide) (fun t ht hW => ⟨⟨(1 : Int32), (oA u 26 g5, lt, sj), rfl, by first | exact Or.inl ⟨_, rfl, rfl, by assumption⟩ | exact Or.inr ⟨_, rfl, rfl, by assumption⟩, show PP G (mw G h (oA u 26 g5) lt sj) t.heap by rw [ht]; exact hP⟩, hS.F ht⟩) hS.2.2 dX5_isChange_12
  · skip
    exact W.zret (v := (0 : Int32)) hx hb hr (by decide) (fun t ht hW => ⟨⟨(0 : Int32), (oA u 26 g5, lt, sj), rfl, by first | exact Or.inl ⟨_, rfl, rfl, by assumption⟩ | exact Or.inr ⟨_, rfl, rfl, by assumption⟩, show PP G (mw G h (oA u 26 g5) lt sj) t.heap by rw [ht]; exact hP⟩, hS.F ht⟩) hS.2.2 dX5_isChange_12
set_option maxHeartbeats 1000000 in
set_option maxRecDepth 100000 in
theorem mt_X5_includeS (l : Launch) (G : gG) (h : Nat → Nat) (sz : Nat) (u : oS) (lt : Int64) (sj : Nat → Int64) (sg : pS) (zz : Nat → Nat → Int64) (a : Int32) (nh : Nat) (hI : MIx u (sg.1 0) (sg.1 4) (sg.1 10) nh) (hIS : IS sg) (hRM : RepM u sj sg zz) : Met l yX5_include wsX5_include ({ frames := 4, cells := 0, slots := 0, locals := 86 }) (preW G (mw G h u lt sj) sz [.ref (h 0), .int a]) (va_Qi (fun (r : Int32) (v : oS × Int64 × (Nat → Int64)) => RepM v.1 v.2.2 (incF sg a) (zz) ∧ r = incA sg a) (fun v t => PP G (mw G h v.1 v.2.1 v.2.2) t.heap) (va_A (mw G h u lt sj) sz)) 0 0 (va_A (mw G h u lt sj) sz) := by
  refine Met.ofW (cc := cX5_include) (maxL := 2) (ret := (some .int)) (by decide) rfl ?_
  intro p e s m args below meth c s₁ B hml hv
  obtain ⟨ha, hsz, hP, hK, hN, hD0⟩ := hv
  subst ha
  have hx := B.exec
  have hb := B.bytes
  have hr := B.returns
  have hts := atoms_spec (ws := wsX5_include) B.pre
  have hown : s.vm.findClass RX5 = some m.cls := findClass_of_methodNamed B.named
  have hlocks := B.notSynchronized
  subst hsz
  have hD := hD0.self (sz := s.heap.size)
  generalize hAe : va_A (mw G h u lt sj) s.heap.size = A at hD ⊢
  have hA : ∀ q : Nat, s.heap.size ≤ q → A q := fun q h => by rw [← hAe]; exact Or.inr h
  clear hAe hD0
  have hS : va_S A s.heap s.heap [] := va_S.rf
  have hiX5 : ∀ w ∈ wsX50, w ∈ wsX5_include := fun w h9 => List.mem_cons_of_mem _ (List.mem_append_right _ (h9))
  have k178 := hts (.fieldLink RX5 178 "WovenHistoryModel" "isOpen" "Z") (List.mem_of_getElem? (i := 2) rfl)
  have k16 := hts (.fieldLink RX5 16 "WovenHistoryModel" "excludes" "[I") (List.mem_of_getElem? (i := 4) rfl)
  have k91 := hts (.fieldLink RX5 91 "WovenHistoryModel" "versions" "I") (List.mem_of_getElem? (i := 5) rfl)
  have k13 := hts (.fieldLink RX5 13 "WovenHistoryModel" "includes" "[I") (List.mem_of_getElem? (i := 6) rfl)
  have hl := lv_entry ([.ref (h 0), .int a]) (n := 2) (Nat.le_of_ble_eq_true rfl)
  rw [lg_entry_eq]
  generalize (lg_sl ([.ref (h 0), .int a]) ++ List.replicate (2 - (lg_sl ([.ref (h 0), .int a])).length) Slot.unset).toArray = ls at hl ⊢
  have hl : lv_has ls 2 [(0, .ref (h 0)), (1, .int a)] := hl
  have hC := hRM.1
  have hic := hIS.ic
  have hle8 := hIS.2.2.1
  have h8e := hRM.2.1
  have hI0 := hI
  obtain ⟨hnv, hnl, hnt, hnh, hnv24, hnl120, hnt240, hnh120, hop, hopn, hparV, hsz4, himg⟩ := hI
  refine lv_aload_n hx hb dX5_include_0 rfl (lv_at hl 0 rfl) ?_
  refine lv_iload_n hx hb dX5_include_1 rfl (lv_at hl 1 rfl) ?_
  refine cRi (w := mw G h u lt sj) (As := [.int a]) (rest := []) ⟨hx, hb, hml, hown, hts⟩ (mt_X5_isVersion l G h u lt sj (sg.1 0) a (hnv) (by first | assumption | omega)) (cwV 1 hts gX5_include_X5_isVersion rfl rfl rfl ⟨rfl, hd_X5_isVersion⟩ ⟨Nat.le_of_ble_eq_true rfl, Nat.le_of_ble_eq_true rfl⟩) hK hN hP 0 5 rfl rfl rfl hl.1 rfl (Nat.le_of_ble_eq_true rfl) ⟨Nat.zero_le _, Nat.zero_le _⟩ dX5_include_2 (fun r2 hw2 => ?_)
  rcases hw2 with ⟨rfl, a1, ha1, rfl⟩ | ⟨rfl, hna1⟩
  · skip
    refine lv_if_ne (tgt := 11) hx hb dX5_include_5 (by decide) (fun _ => ?_) (fun c9 => absurd c9 (by decide))
    refine lv_aload_n hx hb dX5_include_11 rfl (lv_at hl 0 rfl) ?_
    refine va_get (D := gD G) (ci := 5) (v := .int (u.1 8)) (C := RX5) (T := TX5) (N := 38) hx hb hts hiX5 hown hK hP 0 rfl rfl 8 (by decide) k178 (fun _ h9 => h9) rfl dX5_include_12 ?_
    refine lv_if_eq (tgt := 26) hx hb dX5_include_15 (by decide) (fun c15 => ?_) (fun c15 => ?_)
    · skip
      refine lv_ldc (v := (-1000000003 : Int32)) hx hb hown (hts (.constant RX5 225 (-1000000003)) (List.mem_of_getElem? (i := 3) rfl)) dX5_include_26 ?_
      exact W.iret (v := (-1000000003 : Int32)) hx hb hr (fun t ht hW => ⟨⟨(-1000000003 : Int32), (u, lt, sj), rfl, ⟨by rw [incF, if_neg (not_not_intro (inR_t ha1 (by omega))), if_pos (Or.inl (nI_z (by omega) (h8e.symm.trans c15)))]; exact hRM, by rw [incA, if_neg (not_not_intro (inR_t ha1 (by omega))), if_pos (Or.inl (nI_z (by omega) (h8e.symm.trans c15)))]⟩, show PP G (mw G h u lt sj) t.heap by rw [ht]; exact hP⟩, hS.F ht⟩) hS.2.2 dX5_include_28
    · skip
      obtain ⟨ho1, ho2⟩ := hopn (hop.resolve_left c15)
      refine lv_aload_n hx hb dX5_include_18 rfl (lv_at hl 0 rfl) ?_
      refine lv_iload_n hx hb dX5_include_19 rfl (lv_at hl 1 rfl) ?_
      have hP := mw_self26 hP
      have hD : va_D A (mw G h (oA u 26 (u.2 26)) lt sj) := mw_self26D hD
      refine cXi (As := [.int (nI a1)]) (rest := []) (S := oS × Int64 × (Nat → Int64)) (wa := mw G h (oA u 26 (u.2 26)) lt sj) (w1 := fun v => mw G h v.1 v.2.1 v.2.2) ⟨hx, hb, hml, hown, hts⟩ (mt_X5_isChangeF l G h _ u lt sj (u.2 26) (sg.1 0) (nI a1) (hnv) (by first | assumption | omega) (ho2)) (cwV 1 hts gX5_include_X5_isChange rfl rfl rfl ⟨rfl, hd_X5_isChange⟩ ⟨Nat.le_of_ble_eq_true rfl, Nat.le_of_ble_eq_true rfl⟩) hK hN hP hD hS hA (fun _ => rfl) 0 5 rfl rfl rfl hl.1 rfl (Nat.le_of_ble_eq_true rfl) ⟨Nat.zero_le _, Nat.zero_le _⟩ dX5_include_20 (fun r20 u20 H locs hw20 hP hD hS => ?_)
      rcases hw20 with ⟨g20, rfl, rfl, hy20⟩ | ⟨g20, rfl, rfl, hn20⟩
      · skip
        have hP : PP G (mw G h (oA u 26 g20) lt sj) H := hP
        have hD : va_D A (mw G h (oA u 26 g20) lt sj) := hD
        refine lv_if_eq (tgt := 29) hx hb dX5_include_23 (by decide) (fun c9 => absurd c9 (by decide)) (fun _ => ?_)
        refine lv_ldc (v := (-1000000003 : Int32)) hx hb hown (hts (.constant RX5 225 (-1000000003)) (List.mem_of_getElem? (i := 3) rfl)) dX5_include_26 ?_
        exact W.iret (v := (-1000000003 : Int32)) hx hb hr (fun t ht hW => ⟨⟨(-1000000003 : Int32), (oA u 26 g20, lt, sj), rfl, ⟨by rw [incF, if_neg (not_not_intro (inR_t ha1 (by omega))), vN_n (by omega), if_pos (Or.inr (by rw [← (show CM u sg (sg.1 0 + 1) from (show sg.1 8 = 1 by have h8 : ¬ sg.1 8 = 0 := (fun q9 => c15 (h8e.trans (by rw [q9]; rfl))); omega) ▸ hC).cv (show IC sg (sg.1 0 + 1) from (show sg.1 8 = 1 by have h8 : ¬ sg.1 8 = 0 := (fun q9 => c15 (h8e.trans (by rw [q9]; rfl))); omega) ▸ hic) (Nat.lt_succ_self _)]; exact hasb_t hy20))]; exact RepM_26 _ hRM, by rw [incA, if_neg (not_not_intro (inR_t ha1 (by omega))), vN_n (by omega), if_pos (Or.inr (by rw [← (show CM u sg (sg.1 0 + 1) from (show sg.1 8 = 1 by have h8 : ¬ sg.1 8 = 0 := (fun q9 => c15 (h8e.trans (by rw [q9]; rfl))); omega) ▸ hC).cv (show IC sg (sg.1 0 + 1) from (show sg.1 8 = 1 by have h8 : ¬ sg.1 8 = 0 := (fun q9 => c15 (h8e.trans (by rw [q9]; rfl))); omega) ▸ hic) (Nat.lt_succ_self _)]; exact hasb_t hy20))]⟩, show PP G (mw G h (oA u 26 g20) lt sj) t.heap by rw [ht]; exact hP⟩, hS.F ht⟩) hS.2.2 dX5_include_28
      · skip
        have hP : PP G (mw G h (oA u 26 g20) lt sj) H := hP
        have hD : va_D A (mw G h (oA u 26 g20) lt sj) := hD
        refine lv_if_eq (tgt := 29) hx hb dX5_include_23 (by decide) (fun _ => ?_) (fun c9 => absurd (by decide) c9)
        refine lv_aload_n hx hb dX5_include_29 rfl (lv_at hl 0 rfl) ?_
        refine va_get (D := gD G) (ci := 5) (v := .ref (h 3)) (C := RX5) (T := TX5) (N := 38) hx hb hts hiX5 hown hK hP 0 rfl rfl 3 (by decide) k16 (fun _ h9 => h9) rfl dX5_include_30 ?_
        refine lv_aload_n hx hb dX5_include_33 rfl (lv_at hl 0 rfl) ?_
        refine va_get (D := gD G) (ci := 5) (v := .int (u.1 0)) (C := RX5) (T := TX5) (N := 38) hx hb hts hiX5 hown hK hP 0 rfl rfl 0 (by decide) k91 (fun _ h9 => h9) rfl dX5_include_34 ?_
        refine topE hnv ?_
        refine lv_dup2_11 hx hb dX5_include_37 rfl rfl ?_
        refine ialdN (f := u.2 3) (n := 25) (k := sg.1 0) hx hb hK hP 3 rfl rfl (by omega) dX5_include_38 ?_
        refine lv_iconst (v := (1 : Int32)) hx hb dX5_include_39 (by decide) ?_
        refine lv_iload_n hx hb dX5_include_40 rfl (lv_at hl 1 rfl) ?_
        refine lv_ishl hx hb dX5_include_41 ?_
        refine lv_iconst (v := (-1 : Int32)) hx hb dX5_include_42 (by decide) ?_
        refine lv_ixor hx hb dX5_include_43 ?_
        refine lv_iand hx hb dX5_include_44 ?_
        refine iastN (f := u.2 3) (n := 25) (k := sg.1 0) hx hb hK hP hD hS 3 rfl rfl (by omega) dX5_include_45 (fun H locs hP hD hS => ?_)
        have hP : PP G (mw G h (oA (oA u 26 g20) 3 (upd (u.2 3) (sg.1 0) (((u.2 3) (sg.1 0)) &&& (((1 : Int32) <<< ((nI a1) &&& 31)) ^^^ (-1 : Int32))))) lt sj) H := hP
        have hD : va_D A (mw G h (oA (oA u 26 g20) 3 (upd (u.2 3) (sg.1 0) (((u.2 3) (sg.1 0)) &&& (((1 : Int32) <<< ((nI a1) &&& 31)) ^^^ (-1 : Int32))))) lt sj) := hD
        refine lv_aload_n hx hb dX5_include_46 rfl (lv_at hl 0 rfl) ?_
        refine va_get (D := gD G) (ci := 5) (v := .ref (h 2)) (C := RX5) (T := TX5) (N := 38) hx hb hts hiX5 hown hK hP 0 rfl rfl 2 (by decide) k13 (fun _ h9 => h9) rfl dX5_include_47 ?_
        refine lv_aload_n hx hb dX5_include_50 rfl (lv_at hl 0 rfl) ?_
        refine va_get (D := gD G) (ci := 5) (v := .int ((oA (oA u 26 g20) 3 (upd (u.2 3) (sg.1 0) (((u.2 3) (sg.1 0)) &&& (((1 : Int32) <<< ((nI a1) &&& 31)) ^^^ (-1 : Int32))))).1 0)) (C := RX5) (T := TX5) (N := 38) hx hb hts hiX5 hown hK hP 0 rfl rfl 0 (by decide) k91 (fun _ h9 => h9) rfl dX5_include_51 ?_
        refine topE hnv ?_
        refine lv_dup2_11 hx hb dX5_include_54 rfl rfl ?_
        refine ialdN (f := (oA (oA u 26 g20) 3 (upd (u.2 3) (sg.1 0) (((u.2 3) (sg.1 0)) &&& (((1 : Int32) <<< ((nI a1) &&& 31)) ^^^ (-1 : Int32))))).2 2) (n := 25) (k := sg.1 0) hx hb hK hP 2 rfl rfl (by omega) dX5_include_55 ?_
        refine lv_iconst (v := (1 : Int32)) hx hb dX5_include_56 (by decide) ?_
        refine lv_iload_n hx hb dX5_include_57 rfl (lv_at hl 1 rfl) ?_
        refine lv_ishl hx hb dX5_include_58 ?_
        refine lv_ior hx hb dX5_include_59 ?_
        refine iastN (f := (oA (oA u 26 g20) 3 (upd (u.2 3) (sg.1 0) (((u.2 3) (sg.1 0)) &&& (((1 : Int32) <<< ((nI a1) &&& 31)) ^^^ (-1 : Int32))))).2 2) (n := 25) (k := sg.1 0) hx hb hK hP hD hS 2 rfl rfl (by omega) dX5_include_60 (fun H locs hP hD hS => ?_)
        have hP : PP G (mw G h (oA (oA (oA u 26 g20) 3 (upd (u.2 3) (sg.1 0) (((u.2 3) (sg.1 0)) &&& (((1 : Int32) <<< ((nI a1) &&& 31)) ^^^ (-1 : Int32))))) 2 (upd ((oA (oA u 26 g20) 3 (upd (u.2 3) (sg.1 0) (((u.2 3) (sg.1 0)) &&& (((1 : Int32) <<< ((nI a1) &&& 31)) ^^^ (-1 : Int32))))).2 2) (sg.1 0) ((((oA (oA u 26 g20) 3 (upd (u.2 3) (sg.1 0) (((u.2 3) (sg.1 0)) &&& (((1 : Int32) <<< ((nI a1) &&& 31)) ^^^ (-1 : Int32))))).2 2) (sg.1 0)) ||| ((1 : Int32) <<< ((nI a1) &&& 31))))) lt sj) H := hP
        have hD : va_D A (mw G h (oA (oA (oA u 26 g20) 3 (upd (u.2 3) (sg.1 0) (((u.2 3) (sg.1 0)) &&& (((1 : Int32) <<< ((nI a1) &&& 31)) ^^^ (-1 : Int32))))) 2 (upd ((oA (oA u 26 g20) 3 (upd (u.2 3) (sg.1 0) (((u.2 3) (sg.1 0)) &&& (((1 : Int32) <<< ((nI a1) &&& 31)) ^^^ (-1 : Int32))))).2 2) (sg.1 0) ((((oA (oA u 26 g20) 3 (upd (u.2 3) (sg.1 0) (((u.2 3) (sg.1 0)) &&& (((1 : Int32) <<< ((nI a1) &&& 31)) ^^^ (-1 : Int32))))).2 2) (sg.1 0)) ||| ((1 : Int32) <<< ((nI a1) &&& 31))))) lt sj) := hD
        refine lv_aload_n hx hb dX5_include_61 rfl (lv_at hl 0 rfl) ?_
        have hP := mw_self26 hP
        have hD : va_D A (mw G h (oA (oA (oA (oA u 26 g20) 3 (upd (u.2 3) (sg.1 0) (((u.2 3) (sg.1 0)) &&& (((1 : Int32) <<< ((nI a1) &&& 31)) ^^^ (-1 : Int32))))) 2 (upd ((oA (oA u 26 g20) 3 (upd (u.2 3) (sg.1 0) (((u.2 3) (sg.1 0)) &&& (((1 : Int32) <<< ((nI a1) &&& 31)) ^^^ (-1 : Int32))))).2 2) (sg.1 0) ((((oA (oA u 26 g20) 3 (upd (u.2 3) (sg.1 0) (((u.2 3) (sg.1 0)) &&& (((1 : Int32) <<< ((nI a1) &&& 31)) ^^^ (-1 : Int32))))).2 2) (sg.1 0)) ||| ((1 : Int32) <<< ((nI a1) &&& 31))))) 26 ((oA (oA (oA u 26 g20) 3 (upd (u.2 3) (sg.1 0) (((u.2 3) (sg.1 0)) &&& (((1 : Int32) <<< ((nI a1) &&& 31)) ^^^ (-1 : Int32))))) 2 (upd ((oA (oA u 26 g20) 3 (upd (u.2 3) (sg.1 0) (((u.2 3) (sg.1 0)) &&& (((1 : Int32) <<< ((nI a1) &&& 31)) ^^^ (-1 : Int32))))).2 2) (sg.1 0) ((((oA (oA u 26 g20) 3 (upd (u.2 3) (sg.1 0) (((u.2 3) (sg.1 0)) &&& (((1 : Int32) <<< ((nI a1) &&& 31)) ^^^ (-1 : Int32))))).2 2) (sg.1 0)) ||| ((1 : Int32) <<< ((nI a1) &&& 31))))).2 26)) lt sj) := mw_self26D hD
        refine cXi (As := []) (rest := []) (S := oS × Int64 × (Nat → Int64)) (wa := mw G h (oA (oA (oA (oA u 26 g20) 3 (upd (u.2 3) (sg.1 0) (((u.2 3) (sg.1 0)) &&& (((1 : Int32) <<< ((nI a1) &&& 31)) ^^^ (-1 : Int32))))) 2 (upd ((oA (oA u 26 g20) 3 (upd (u.2 3) (sg.1 0) (((u.2 3) (sg.1 0)) &&& (((1 : Int32) <<< ((nI a1) &&& 31)) ^^^ (-1 : Int32))))).2 2) (sg.1 0) ((((oA (oA u 26 g20) 3 (upd (u.2 3) (sg.1 0) (((u.2 3) (sg.1 0)) &&& (((1 : Int32) <<< ((nI a1) &&& 31)) ^^^ (-1 : Int32))))).2 2) (sg.1 0)) ||| ((1 : Int32) <<< ((nI a1) &&& 31))))) 26 ((oA (oA (oA u 26 g20) 3 (upd (u.2 3) (sg.1 0) (((u.2 3) (sg.1 0)) &&& (((1 : Int32) <<< ((nI a1) &&& 31)) ^^^ (-1 : Int32))))) 2 (upd ((oA (oA u 26 g20) 3 (upd (u.2 3) (sg.1 0) (((u.2 3) (sg.1 0)) &&& (((1 : Int32) <<< ((nI a1) &&& 31)) ^^^ (-1 : Int32))))).2 2) (sg.1 0) ((((oA (oA u 26 g20) 3 (upd (u.2 3) (sg.1 0) (((u.2 3) (sg.1 0)) &&& (((1 : Int32) <<< ((nI a1) &&& 31)) ^^^ (-1 : Int32))))).2 2) (sg.1 0)) ||| ((1 : Int32) <<< ((nI a1) &&& 31))))).2 26)) lt sj) (w1 := fun v => mw G h v.1 v.2.1 v.2.2) ⟨hx, hb, hml, hown, hts⟩ (mt_X5_openLines l G h _ (oA (oA (oA u 26 g20) 3 (upd (u.2 3) (sg.1 0) (((u.2 3) (sg.1 0)) &&& (((1 : Int32) <<< ((nI a1) &&& 31)) ^^^ (-1 : Int32))))) 2 (upd ((oA (oA u 26 g20) 3 (upd (u.2 3) (sg.1 0) (((u.2 3) (sg.1 0)) &&& (((1 : Int32) <<< ((nI a1) &&& 31)) ^^^ (-1 : Int32))))).2 2) (sg.1 0) ((((oA (oA u 26 g20) 3 (upd (u.2 3) (sg.1 0) (((u.2 3) (sg.1 0)) &&& (((1 : Int32) <<< ((nI a1) &&& 31)) ^^^ (-1 : Int32))))).2 2) (sg.1 0)) ||| ((1 : Int32) <<< ((nI a1) &&& 31))))) lt sj ((oA (oA (oA u 26 g20) 3 (upd (u.2 3) (sg.1 0) (((u.2 3) (sg.1 0)) &&& (((1 : Int32) <<< ((nI a1) &&& 31)) ^^^ (-1 : Int32))))) 2 (upd ((oA (oA u 26 g20) 3 (upd (u.2 3) (sg.1 0) (((u.2 3) (sg.1 0)) &&& (((1 : Int32) <<< ((nI a1) &&& 31)) ^^^ (-1 : Int32))))).2 2) (sg.1 0) ((((oA (oA u 26 g20) 3 (upd (u.2 3) (sg.1 0) (((u.2 3) (sg.1 0)) &&& (((1 : Int32) <<< ((nI a1) &&& 31)) ^^^ (-1 : Int32))))).2 2) (sg.1 0)) ||| ((1 : Int32) <<< ((nI a1) &&& 31))))).2 26) (sg.1 0) (sg.1 4) (hnv) (hnl) (by first | assumption | omega) (by first | assumption | omega) (ho2)) (cwV 0 hts gX5_include_X5_openLines rfl rfl rfl ⟨rfl, hd_X5_openLines⟩ ⟨Nat.le_of_ble_eq_true rfl, Nat.le_of_ble_eq_true rfl⟩) hK hN hP hD hS hA (fun _ => rfl) 0 5 rfl rfl rfl hl.1 rfl (Nat.le_of_ble_eq_true rfl) ⟨Nat.zero_le _, Nat.zero_le _⟩ dX5_include_62 (fun r62 u62 H locs hw62 hP hD hS => ?_)
        obtain ⟨g62, rfl, rfl⟩ := hw62
        have hP : PP G (mw G h (oA (oA (oA (oA u 26 g20) 3 (upd (u.2 3) (sg.1 0) (((u.2 3) (sg.1 0)) &&& (((1 : Int32) <<< ((nI a1) &&& 31)) ^^^ (-1 : Int32))))) 2 (upd ((oA (oA u 26 g20) 3 (upd (u.2 3) (sg.1 0) (((u.2 3) (sg.1 0)) &&& (((1 : Int32) <<< ((nI a1) &&& 31)) ^^^ (-1 : Int32))))).2 2) (sg.1 0) ((((oA (oA u 26 g20) 3 (upd (u.2 3) (sg.1 0) (((u.2 3) (sg.1 0)) &&& (((1 : Int32) <<< ((nI a1) &&& 31)) ^^^ (-1 : Int32))))).2 2) (sg.1 0)) ||| ((1 : Int32) <<< ((nI a1) &&& 31))))) 26 g62) lt sj) H := hP
        have hD : va_D A (mw G h (oA (oA (oA (oA u 26 g20) 3 (upd (u.2 3) (sg.1 0) (((u.2 3) (sg.1 0)) &&& (((1 : Int32) <<< ((nI a1) &&& 31)) ^^^ (-1 : Int32))))) 2 (upd ((oA (oA u 26 g20) 3 (upd (u.2 3) (sg.1 0) (((u.2 3) (sg.1 0)) &&& (((1 : Int32) <<< ((nI a1) &&& 31)) ^^^ (-1 : Int32))))).2 2) (sg.1 0) ((((oA (oA u 26 g20) 3 (upd (u.2 3) (sg.1 0) (((u.2 3) (sg.1 0)) &&& (((1 : Int32) <<< ((nI a1) &&& 31)) ^^^ (-1 : Int32))))).2 2) (sg.1 0)) ||| ((1 : Int32) <<< ((nI a1) &&& 31))))) 26 g62) lt sj) := hD
        have hc62 := cnt_le (sdb ((oA (oA (oA u 26 g20) 3 (upd (u.2 3) (sg.1 0) (((u.2 3) (sg.1 0)) &&& (((1 : Int32) <<< ((nI a1) &&& 31)) ^^^ (-1 : Int32))))) 2 (upd ((oA (oA u 26 g20) 3 (upd (u.2 3) (sg.1 0) (((u.2 3) (sg.1 0)) &&& (((1 : Int32) <<< ((nI a1) &&& 31)) ^^^ (-1 : Int32))))).2 2) (sg.1 0) ((((oA (oA u 26 g20) 3 (upd (u.2 3) (sg.1 0) (((u.2 3) (sg.1 0)) &&& (((1 : Int32) <<< ((nI a1) &&& 31)) ^^^ (-1 : Int32))))).2 2) (sg.1 0)) ||| ((1 : Int32) <<< ((nI a1) &&& 31))))).2 6) ((oA (oA (oA u 26 g20) 3 (upd (u.2 3) (sg.1 0) (((u.2 3) (sg.1 0)) &&& (((1 : Int32) <<< ((nI a1) &&& 31)) ^^^ (-1 : Int32))))) 2 (upd ((oA (oA u 26 g20) 3 (upd (u.2 3) (sg.1 0) (((u.2 3) (sg.1 0)) &&& (((1 : Int32) <<< ((nI a1) &&& 31)) ^^^ (-1 : Int32))))).2 2) (sg.1 0) ((((oA (oA u 26 g20) 3 (upd (u.2 3) (sg.1 0) (((u.2 3) (sg.1 0)) &&& (((1 : Int32) <<< ((nI a1) &&& 31)) ^^^ (-1 : Int32))))).2 2) (sg.1 0)) ||| ((1 : Int32) <<< ((nI a1) &&& 31))))).2 7) (chV ((oA (oA (oA u 26 g20) 3 (upd (u.2 3) (sg.1 0) (((u.2 3) (sg.1 0)) &&& (((1 : Int32) <<< ((nI a1) &&& 31)) ^^^ (-1 : Int32))))) 2 (upd ((oA (oA u 26 g20) 3 (upd (u.2 3) (sg.1 0) (((u.2 3) (sg.1 0)) &&& (((1 : Int32) <<< ((nI a1) &&& 31)) ^^^ (-1 : Int32))))).2 2) (sg.1 0) ((((oA (oA u 26 g20) 3 (upd (u.2 3) (sg.1 0) (((u.2 3) (sg.1 0)) &&& (((1 : Int32) <<< ((nI a1) &&& 31)) ^^^ (-1 : Int32))))).2 2) (sg.1 0)) ||| ((1 : Int32) <<< ((nI a1) &&& 31))))).2 1) ((oA (oA (oA u 26 g20) 3 (upd (u.2 3) (sg.1 0) (((u.2 3) (sg.1 0)) &&& (((1 : Int32) <<< ((nI a1) &&& 31)) ^^^ (-1 : Int32))))) 2 (upd ((oA (oA u 26 g20) 3 (upd (u.2 3) (sg.1 0) (((u.2 3) (sg.1 0)) &&& (((1 : Int32) <<< ((nI a1) &&& 31)) ^^^ (-1 : Int32))))).2 2) (sg.1 0) ((((oA (oA u 26 g20) 3 (upd (u.2 3) (sg.1 0) (((u.2 3) (sg.1 0)) &&& (((1 : Int32) <<< ((nI a1) &&& 31)) ^^^ (-1 : Int32))))).2 2) (sg.1 0)) ||| ((1 : Int32) <<< ((nI a1) &&& 31))))).2 2) ((oA (oA (oA u 26 g20) 3 (upd (u.2 3) (sg.1 0) (((u.2 3) (sg.1 0)) &&& (((1 : Int32) <<< ((nI a1) &&& 31)) ^^^ (-1 : Int32))))) 2 (upd ((oA (oA u 26 g20) 3 (upd (u.2 3) (sg.1 0) (((u.2 3) (sg.1 0)) &&& (((1 : Int32) <<< ((nI a1) &&& 31)) ^^^ (-1 : Int32))))).2 2) (sg.1 0) ((((oA (oA u 26 g20) 3 (upd (u.2 3) (sg.1 0) (((u.2 3) (sg.1 0)) &&& (((1 : Int32) <<< ((nI a1) &&& 31)) ^^^ (-1 : Int32))))).2 2) (sg.1 0)) ||| ((1 : Int32) <<< ((nI a1) &&& 31))))).2 3) (nI (sg.1 0)))) (sg.1 4)
        exact W.iret (v := nI (cnt (sdb ((oA (oA (oA u 26 g20) 3 (upd (u.2 3) (sg.1 0) (((u.2 3) (sg.1 0)) &&& (((1 : Int32) <<< ((nI a1) &&& 31)) ^^^ (-1 : Int32))))) 2 (upd ((oA (oA u 26 g20) 3 (upd (u.2 3) (sg.1 0) (((u.2 3) (sg.1 0)) &&& (((1 : Int32) <<< ((nI a1) &&& 31)) ^^^ (-1 : Int32))))).2 2) (sg.1 0) ((((oA (oA u 26 g20) 3 (upd (u.2 3) (sg.1 0) (((u.2 3) (sg.1 0)) &&& (((1 : Int32) <<< ((nI a1) &&& 31)) ^^^ (-1 : Int32))))).2 2) (sg.1 0)) ||| ((1 : Int32) <<< ((nI a1) &&& 31))))).2 6) ((oA (oA (oA u 26 g20) 3 (upd (u.2 3) (sg.1 0) (((u.2 3) (sg.1 0)) &&& (((1 : Int32) <<< ((nI a1) &&& 31)) ^^^ (-1 : Int32))))) 2 (upd ((oA (oA u 26 g20) 3 (upd (u.2 3) (sg.1 0) (((u.2 3) (sg.1 0)) &&& (((1 : Int32) <<< ((nI a1) &&& 31)) ^^^ (-1 : Int32))))).2 2) (sg.1 0) ((((oA (oA u 26 g20) 3 (upd (u.2 3) (sg.1 0) (((u.2 3) (sg.1 0)) &&& (((1 : Int32) <<< ((nI a1) &&& 31)) ^^^ (-1 : Int32))))).2 2) (sg.1 0)) ||| ((1 : Int32) <<< ((nI a1) &&& 31))))).2 7) (chV ((oA (oA (oA u 26 g20) 3 (upd (u.2 3) (sg.1 0) (((u.2 3) (sg.1 0)) &&& (((1 : Int32) <<< ((nI a1) &&& 31)) ^^^ (-1 : Int32))))) 2 (upd ((oA (oA u 26 g20) 3 (upd (u.2 3) (sg.1 0) (((u.2 3) (sg.1 0)) &&& (((1 : Int32) <<< ((nI a1) &&& 31)) ^^^ (-1 : Int32))))).2 2) (sg.1 0) ((((oA (oA u 26 g20) 3 (upd (u.2 3) (sg.1 0) (((u.2 3) (sg.1 0)) &&& (((1 : Int32) <<< ((nI a1) &&& 31)) ^^^ (-1 : Int32))))).2 2) (sg.1 0)) ||| ((1 : Int32) <<< ((nI a1) &&& 31))))).2 1) ((oA (oA (oA u 26 g20) 3 (upd (u.2 3) (sg.1 0) (((u.2 3) (sg.1 0)) &&& (((1 : Int32) <<< ((nI a1) &&& 31)) ^^^ (-1 : Int32))))) 2 (upd ((oA (oA u 26 g20) 3 (upd (u.2 3) (sg.1 0) (((u.2 3) (sg.1 0)) &&& (((1 : Int32) <<< ((nI a1) &&& 31)) ^^^ (-1 : Int32))))).2 2) (sg.1 0) ((((oA (oA u 26 g20) 3 (upd (u.2 3) (sg.1 0) (((u.2 3) (sg.1 0)) &&& (((1 : Int32) <<< ((nI a1) &&& 31)) ^^^ (-1 : Int32))))).2 2) (sg.1 0)) ||| ((1 : Int32) <<< ((nI a1) &&& 31))))).2 2) ((oA (oA (oA u 26 g20) 3 (upd (u.2 3) (sg.1 0) (((u.2 3) (sg.1 0)) &&& (((1 : Int32) <<< ((nI a1) &&& 31)) ^^^ (-1 : Int32))))) 2 (upd ((oA (oA u 26 g20) 3 (upd (u.2 3) (sg.1 0) (((u.2 3) (sg.1 0)) &&& (((1 : Int32) <<< ((nI a1) &&& 31)) ^^^ (-1 : Int32))))).2 2) (sg.1 0) ((((oA (oA u 26 g20) 3 (upd (u.2 3) (sg.1 0) (((u.2 3) (sg.1 0)) &&& (((1 : Int32) <<< ((nI a1) &&& 31)) ^^^ (-1 : Int32))))).2 2) (sg.1 0)) ||| ((1 : Int32) <<< ((nI a1) &&& 31))))).2 3) (nI (sg.1 0)))) (sg.1 4))) hx hb hr (fun t ht hW => ⟨⟨nI (cnt (sdb ((oA (oA (oA u 26 g20) 3 (upd (u.2 3) (sg.1 0) (((u.2 3) (sg.1 0)) &&& (((1 : Int32) <<< ((nI a1) &&& 31)) ^^^ (-1 : Int32))))) 2 (upd ((oA (oA u 26 g20) 3 (upd (u.2 3) (sg.1 0) (((u.2 3) (sg.1 0)) &&& (((1 : Int32) <<< ((nI a1) &&& 31)) ^^^ (-1 : Int32))))).2 2) (sg.1 0) ((((oA (oA u 26 g20) 3 (upd (u.2 3) (sg.1 0) (((u.2 3) (sg.1 0)) &&& (((1 : Int32) <<< ((nI a1) &&& 31)) ^^^ (-1 : Int32))))).2 2) (sg.1 0)) ||| ((1 : Int32) <<< ((nI a1) &&& 31))))).2 6) ((oA (oA (oA u 26 g20) 3 (upd (u.2 3) (sg.1 0) (((u.2 3) (sg.1 0)) &&& (((1 : Int32) <<< ((nI a1) &&& 31)) ^^^ (-1 : Int32))))) 2 (upd ((oA (oA u 26 g20) 3 (upd (u.2 3) (sg.1 0) (((u.2 3) (sg.1 0)) &&& (((1 : Int32) <<< ((nI a1) &&& 31)) ^^^ (-1 : Int32))))).2 2) (sg.1 0) ((((oA (oA u 26 g20) 3 (upd (u.2 3) (sg.1 0) (((u.2 3) (sg.1 0)) &&& (((1 : Int32) <<< ((nI a1) &&& 31)) ^^^ (-1 : Int32))))).2 2) (sg.1 0)) ||| ((1 : Int32) <<< ((nI a1) &&& 31))))).2 7) (chV ((oA (oA (oA u 26 g20) 3 (upd (u.2 3) (sg.1 0) (((u.2 3) (sg.1 0)) &&& (((1 : Int32) <<< ((nI a1) &&& 31)) ^^^ (-1 : Int32))))) 2 (upd ((oA (oA u 26 g20) 3 (upd (u.2 3) (sg.1 0) (((u.2 3) (sg.1 0)) &&& (((1 : Int32) <<< ((nI a1) &&& 31)) ^^^ (-1 : Int32))))).2 2) (sg.1 0) ((((oA (oA u 26 g20) 3 (upd (u.2 3) (sg.1 0) (((u.2 3) (sg.1 0)) &&& (((1 : Int32) <<< ((nI a1) &&& 31)) ^^^ (-1 : Int32))))).2 2) (sg.1 0)) ||| ((1 : Int32) <<< ((nI a1) &&& 31))))).2 1) ((oA (oA (oA u 26 g20) 3 (upd (u.2 3) (sg.1 0) (((u.2 3) (sg.1 0)) &&& (((1 : Int32) <<< ((nI a1) &&& 31)) ^^^ (-1 : Int32))))) 2 (upd ((oA (oA u 26 g20) 3 (upd (u.2 3) (sg.1 0) (((u.2 3) (sg.1 0)) &&& (((1 : Int32) <<< ((nI a1) &&& 31)) ^^^ (-1 : Int32))))).2 2) (sg.1 0) ((((oA (oA u 26 g20) 3 (upd (u.2 3) (sg.1 0) (((u.2 3) (sg.1 0)) &&& (((1 : Int32) <<< ((nI a1) &&& 31)) ^^^ (-1 : Int32))))).2 2) (sg.1 0)) ||| ((1 : Int32) <<< ((nI a1) &&& 31))))).2 2) ((oA (oA (oA u 26 g20) 3 (upd (u.2 3) (sg.1 0) (((u.2 3) (sg.1 0)) &&& (((1 : Int32) <<< ((nI a1) &&& 31)) ^^^ (-1 : Int32))))) 2 (upd ((oA (oA u 26 g20) 3 (upd (u.2 3) (sg.1 0) (((u.2 3) (sg.1 0)) &&& (((1 : Int32) <<< ((nI a1) &&& 31)) ^^^ (-1 : Int32))))).2 2) (sg.1 0) ((((oA (oA u 26 g20) 3 (upd (u.2 3) (sg.1 0) (((u.2 3) (sg.1 0)) &&& (((1 : Int32) <<< ((nI a1) &&& 31)) ^^^ (-1 : Int32))))).2 2) (sg.1 0)) ||| ((1 : Int32) <<< ((nI a1) &&& 31))))).2 3) (nI (sg.1 0)))) (sg.1 4)), (oA (oA (oA (oA u 26 g20) 3 (upd (u.2 3) (sg.1 0) (((u.2 3) (sg.1 0)) &&& (((1 : Int32) <<< ((nI a1) &&& 31)) ^^^ (-1 : Int32))))) 2 (upd ((oA (oA u 26 g20) 3 (upd (u.2 3) (sg.1 0) (((u.2 3) (sg.1 0)) &&& (((1 : Int32) <<< ((nI a1) &&& 31)) ^^^ (-1 : Int32))))).2 2) (sg.1 0) ((((oA (oA u 26 g20) 3 (upd (u.2 3) (sg.1 0) (((u.2 3) (sg.1 0)) &&& (((1 : Int32) <<< ((nI a1) &&& 31)) ^^^ (-1 : Int32))))).2 2) (sg.1 0)) ||| ((1 : Int32) <<< ((nI a1) &&& 31))))) 26 g62, lt, sj), rfl, ⟨by rw [incF, if_neg (not_not_intro (inR_t ha1 (by omega))), vN_n (by omega), if_neg (fun q => by rcases q with q | q; exact (fun q9 => c15 (h8e.trans (by rw [q9]; rfl))) q; exact (show ¬ _ from (by rw [← (show CM u sg (sg.1 0 + 1) from (show sg.1 8 = 1 by have h8 : ¬ sg.1 8 = 0 := (fun q9 => c15 (h8e.trans (by rw [q9]; rfl))); omega) ▸ hC).cv (show IC sg (sg.1 0 + 1) from (show sg.1 8 = 1 by have h8 : ¬ sg.1 8 = 0 := (fun q9 => c15 (h8e.trans (by rw [q9]; rfl))); omega) ▸ hic) (Nat.lt_succ_self _)]; exact hasb_f hn20)) q)]; exact RepM_26 _ (RepM.lines (RepM_26 g20 hRM) (by rw [(show sg.1 8 = 1 by have h8 : ¬ sg.1 8 = 0 := (fun q9 => c15 (h8e.trans (by rw [q9]; rfl))); omega)]; exact CM.of ((show CM u sg (sg.1 0 + 1) from (show sg.1 8 = 1 by have h8 : ¬ sg.1 8 = 0 := (fun q9 => c15 (h8e.trans (by rw [q9]; rfl))); omega) ▸ hC).inc (v := a1)) rfl rfl rfl rfl rfl rfl rfl rfl) (fun _ _ => rfl) (fun k h8 h26 => by rw [oA_2, if_neg (by omega), oA_2, if_neg (by omega)]) (stL_inc sg a1)), by rw [incA, if_neg (not_not_intro (inR_t ha1 (by omega))), vN_n (by omega), if_neg (fun q => by rcases q with q | q; exact (fun q9 => c15 (h8e.trans (by rw [q9]; rfl))) q; exact (show ¬ _ from (by rw [← (show CM u sg (sg.1 0 + 1) from (show sg.1 8 = 1 by have h8 : ¬ sg.1 8 = 0 := (fun q9 => c15 (h8e.trans (by rw [q9]; rfl))); omega) ▸ hC).cv (show IC sg (sg.1 0 + 1) from (show sg.1 8 = 1 by have h8 : ¬ sg.1 8 = 0 := (fun q9 => c15 (h8e.trans (by rw [q9]; rfl))); omega) ▸ hic) (Nat.lt_succ_self _)]; exact hasb_f hn20)) q)]; exact congrArg nI (olS_M (s := sInc sg a1) ((show CM u sg (sg.1 0 + 1) from (show sg.1 8 = 1 by have h8 : ¬ sg.1 8 = 0 := (fun q9 => c15 (h8e.trans (by rw [q9]; rfl))); omega) ▸ hC).inc (v := a1)) (show IC sg (sg.1 0 + 1) from (show sg.1 8 = 1 by have h8 : ¬ sg.1 8 = 0 := (fun q9 => c15 (h8e.trans (by rw [q9]; rfl))); omega) ▸ hic))⟩, show PP G (mw G h (oA (oA (oA (oA u 26 g20) 3 (upd (u.2 3) (sg.1 0) (((u.2 3) (sg.1 0)) &&& (((1 : Int32) <<< ((nI a1) &&& 31)) ^^^ (-1 : Int32))))) 2 (upd ((oA (oA u 26 g20) 3 (upd (u.2 3) (sg.1 0) (((u.2 3) (sg.1 0)) &&& (((1 : Int32) <<< ((nI a1) &&& 31)) ^^^ (-1 : Int32))))).2 2) (sg.1 0) ((((oA (oA u 26 g20) 3 (upd (u.2 3) (sg.1 0) (((u.2 3) (sg.1 0)) &&& (((1 : Int32) <<< ((nI a1) &&& 31)) ^^^ (-1 : Int32))))).2 2) (sg.1 0)) ||| ((1 : Int32) <<< ((nI a1) &&& 31))))) 26 g62) lt sj) t.heap by rw [ht]; exact hP⟩, hS.F ht⟩) hS.2.2 dX5_include_65
  · skip
    refine lv_if_ne (tgt := 11) hx hb dX5_include_5 (by decide) (fun c9 => absurd (by decide) c9) (fun _ => ?_)
    refine lv_ldc (v := (-1000000001 : Int32)) hx hb hown (hts (.constant RX5 216 (-1000000001)) (List.mem_of_getElem? (i := 1) rfl)) dX5_include_8 ?_
    exact W.iret (v := (-1000000001 : Int32)) hx hb hr (fun t ht hW => ⟨⟨(-1000000001 : Int32), (u, lt, sj), rfl, ⟨by rw [incF, if_pos (inR_f (by omega) hna1)]; exact hRM, by rw [incA, if_pos (inR_f (by omega) hna1)]⟩, show PP G (mw G h u lt sj) t.heap by rw [ht]; exact hP⟩, hS.F ht⟩) hS.2.2 dX5_include_10
set_option maxHeartbeats 1000000 in
set_option maxRecDepth 100000 in
theorem mt_X5_excludeS (l : Launch) (G : gG) (h : Nat → Nat) (sz : Nat) (u : oS) (lt : Int64) (sj : Nat → Int64) (sg : pS) (zz : Nat → Nat → Int64) (a : Int32) (nh : Nat) (hI : MIx u (sg.1 0) (sg.1 4) (sg.1 10) nh) (hIS : IS sg) (hRM : RepM u sj sg zz) : Met l yX5_exclude wsX5_exclude ({ frames := 4, cells := 0, slots := 0, locals := 86 }) (preW G (mw G h u lt sj) sz [.ref (h 0), .int a]) (va_Qi (fun (r : Int32) (v : oS × Int64 × (Nat → Int64)) => RepM v.1 v.2.2 (excF sg a) (zz) ∧ r = excA sg a) (fun v t => PP G (mw G h v.1 v.2.1 v.2.2) t.heap) (va_A (mw G h u lt sj) sz)) 0 0 (va_A (mw G h u lt sj) sz) := by
  refine Met.ofW (cc := cX5_exclude) (maxL := 2) (ret := (some .int)) (by decide) rfl ?_
  intro p e s m args below meth c s₁ B hml hv
  obtain ⟨ha, hsz, hP, hK, hN, hD0⟩ := hv
  subst ha
  have hx := B.exec
  have hb := B.bytes
  have hr := B.returns
  have hts := atoms_spec (ws := wsX5_exclude) B.pre
  have hown : s.vm.findClass RX5 = some m.cls := findClass_of_methodNamed B.named
  have hlocks := B.notSynchronized
  subst hsz
  have hD := hD0.self (sz := s.heap.size)
  generalize hAe : va_A (mw G h u lt sj) s.heap.size = A at hD ⊢
  have hA : ∀ q : Nat, s.heap.size ≤ q → A q := fun q h => by rw [← hAe]; exact Or.inr h
  clear hAe hD0
  have hS : va_S A s.heap s.heap [] := va_S.rf
  have hiX5 : ∀ w ∈ wsX50, w ∈ wsX5_exclude := fun w h9 => List.mem_cons_of_mem _ (List.mem_append_right _ (h9))
  have k178 := hts (.fieldLink RX5 178 "WovenHistoryModel" "isOpen" "Z") (List.mem_of_getElem? (i := 2) rfl)
  have k13 := hts (.fieldLink RX5 13 "WovenHistoryModel" "includes" "[I") (List.mem_of_getElem? (i := 4) rfl)
  have k91 := hts (.fieldLink RX5 91 "WovenHistoryModel" "versions" "I") (List.mem_of_getElem? (i := 5) rfl)
  have k16 := hts (.fieldLink RX5 16 "WovenHistoryModel" "excludes" "[I") (List.mem_of_getElem? (i := 6) rfl)
  have hl := lv_entry ([.ref (h 0), .int a]) (n := 2) (Nat.le_of_ble_eq_true rfl)
  rw [lg_entry_eq]
  generalize (lg_sl ([.ref (h 0), .int a]) ++ List.replicate (2 - (lg_sl ([.ref (h 0), .int a])).length) Slot.unset).toArray = ls at hl ⊢
  have hl : lv_has ls 2 [(0, .ref (h 0)), (1, .int a)] := hl
  have hC := hRM.1
  have hic := hIS.ic
  have hle8 := hIS.2.2.1
  have h8e := hRM.2.1
  have hI0 := hI
  obtain ⟨hnv, hnl, hnt, hnh, hnv24, hnl120, hnt240, hnh120, hop, hopn, hparV, hsz4, himg⟩ := hI
  refine lv_aload_n hx hb dX5_exclude_0 rfl (lv_at hl 0 rfl) ?_
  refine lv_iload_n hx hb dX5_exclude_1 rfl (lv_at hl 1 rfl) ?_
  refine cRi (w := mw G h u lt sj) (As := [.int a]) (rest := []) ⟨hx, hb, hml, hown, hts⟩ (mt_X5_isVersion l G h u lt sj (sg.1 0) a (hnv) (by first | assumption | omega)) (cwV 1 hts gX5_exclude_X5_isVersion rfl rfl rfl ⟨rfl, hd_X5_isVersion⟩ ⟨Nat.le_of_ble_eq_true rfl, Nat.le_of_ble_eq_true rfl⟩) hK hN hP 0 5 rfl rfl rfl hl.1 rfl (Nat.le_of_ble_eq_true rfl) ⟨Nat.zero_le _, Nat.zero_le _⟩ dX5_exclude_2 (fun r2 hw2 => ?_)
  rcases hw2 with ⟨rfl, a1, ha1, rfl⟩ | ⟨rfl, hna1⟩
  · skip
    refine lv_if_ne (tgt := 11) hx hb dX5_exclude_5 (by decide) (fun _ => ?_) (fun c9 => absurd c9 (by decide))
    refine lv_aload_n hx hb dX5_exclude_11 rfl (lv_at hl 0 rfl) ?_
    refine va_get (D := gD G) (ci := 5) (v := .int (u.1 8)) (C := RX5) (T := TX5) (N := 38) hx hb hts hiX5 hown hK hP 0 rfl rfl 8 (by decide) k178 (fun _ h9 => h9) rfl dX5_exclude_12 ?_
    refine lv_if_eq (tgt := 26) hx hb dX5_exclude_15 (by decide) (fun c15 => ?_) (fun c15 => ?_)
    · skip
      refine lv_ldc (v := (-1000000003 : Int32)) hx hb hown (hts (.constant RX5 225 (-1000000003)) (List.mem_of_getElem? (i := 3) rfl)) dX5_exclude_26 ?_
      exact W.iret (v := (-1000000003 : Int32)) hx hb hr (fun t ht hW => ⟨⟨(-1000000003 : Int32), (u, lt, sj), rfl, ⟨by rw [excF, if_neg (not_not_intro (inR_t ha1 (by omega))), if_pos (Or.inl (nI_z (by omega) (h8e.symm.trans c15)))]; exact hRM, by rw [excA, if_neg (not_not_intro (inR_t ha1 (by omega))), if_pos (Or.inl (nI_z (by omega) (h8e.symm.trans c15)))]⟩, show PP G (mw G h u lt sj) t.heap by rw [ht]; exact hP⟩, hS.F ht⟩) hS.2.2 dX5_exclude_28
    · skip
      obtain ⟨ho1, ho2⟩ := hopn (hop.resolve_left c15)
      refine lv_aload_n hx hb dX5_exclude_18 rfl (lv_at hl 0 rfl) ?_
      refine lv_iload_n hx hb dX5_exclude_19 rfl (lv_at hl 1 rfl) ?_
      have hP := mw_self26 hP
      have hD : va_D A (mw G h (oA u 26 (u.2 26)) lt sj) := mw_self26D hD
      refine cXi (As := [.int (nI a1)]) (rest := []) (S := oS × Int64 × (Nat → Int64)) (wa := mw G h (oA u 26 (u.2 26)) lt sj) (w1 := fun v => mw G h v.1 v.2.1 v.2.2) ⟨hx, hb, hml, hown, hts⟩ (mt_X5_isChangeF l G h _ u lt sj (u.2 26) (sg.1 0) (nI a1) (hnv) (by first | assumption | omega) (ho2)) (cwV 1 hts gX5_exclude_X5_isChange rfl rfl rfl ⟨rfl, hd_X5_isChange⟩ ⟨Nat.le_of_ble_eq_true rfl, Nat.le_of_ble_eq_true rfl⟩) hK hN hP hD hS hA (fun _ => rfl) 0 5 rfl rfl rfl hl.1 rfl (Nat.le_of_ble_eq_true rfl) ⟨Nat.zero_le _, Nat.zero_le _⟩ dX5_exclude_20 (fun r20 u20 H locs hw20 hP hD hS => ?_)
      rcases hw20 with ⟨g20, rfl, rfl, hy20⟩ | ⟨g20, rfl, rfl, hn20⟩
      · skip
        have hP : PP G (mw G h (oA u 26 g20) lt sj) H := hP
        have hD : va_D A (mw G h (oA u 26 g20) lt sj) := hD
        refine lv_if_ne (tgt := 29) hx hb dX5_exclude_23 (by decide) (fun _ => ?_) (fun c9 => absurd c9 (by decide))
        refine lv_aload_n hx hb dX5_exclude_29 rfl (lv_at hl 0 rfl) ?_
        refine va_get (D := gD G) (ci := 5) (v := .ref (h 2)) (C := RX5) (T := TX5) (N := 38) hx hb hts hiX5 hown hK hP 0 rfl rfl 2 (by decide) k13 (fun _ h9 => h9) rfl dX5_exclude_30 ?_
        refine lv_aload_n hx hb dX5_exclude_33 rfl (lv_at hl 0 rfl) ?_
        refine va_get (D := gD G) (ci := 5) (v := .int (u.1 0)) (C := RX5) (T := TX5) (N := 38) hx hb hts hiX5 hown hK hP 0 rfl rfl 0 (by decide) k91 (fun _ h9 => h9) rfl dX5_exclude_34 ?_
        refine topE hnv ?_
        refine lv_dup2_11 hx hb dX5_exclude_37 rfl rfl ?_
        refine ialdN (f := u.2 2) (n := 25) (k := sg.1 0) hx hb hK hP 2 rfl rfl (by omega) dX5_exclude_38 ?_
        refine lv_iconst (v := (1 : Int32)) hx hb dX5_exclude_39 (by decide) ?_
        refine lv_iload_n hx hb dX5_exclude_40 rfl (lv_at hl 1 rfl) ?_
        refine lv_ishl hx hb dX5_exclude_41 ?_
        refine lv_iconst (v := (-1 : Int32)) hx hb dX5_exclude_42 (by decide) ?_
        refine lv_ixor hx hb dX5_exclude_43 ?_
        refine lv_iand hx hb dX5_exclude_44 ?_
        refine iastN (f := u.2 2) (n := 25) (k := sg.1 0) hx hb hK hP hD hS 2 rfl rfl (by omega) dX5_exclude_45 (fun H locs hP hD hS => ?_)
        have hP : PP G (mw G h (oA (oA u 26 g20) 2 (upd (u.2 2) (sg.1 0) (((u.2 2) (sg.1 0)) &&& (((1 : Int32) <<< ((nI a1) &&& 31)) ^^^ (-1 : Int32))))) lt sj) H := hP
        have hD : va_D A (mw G h (oA (oA u 26 g20) 2 (upd (u.2 2) (sg.1 0) (((u.2 2) (sg.1 0)) &&& (((1 : Int32) <<< ((nI a1) &&& 31)) ^^^ (-1 : Int32))))) lt sj) := hD
        refine lv_aload_n hx hb dX5_exclude_46 rfl (lv_at hl 0 rfl) ?_
        refine va_get (D := gD G) (ci := 5) (v := .ref (h 3)) (C := RX5) (T := TX5) (N := 38) hx hb hts hiX5 hown hK hP 0 rfl rfl 3 (by decide) k16 (fun _ h9 => h9) rfl dX5_exclude_47 ?_
        refine lv_aload_n hx hb dX5_exclude_50 rfl (lv_at hl 0 rfl) ?_
        refine va_get (D := gD G) (ci := 5) (v := .int ((oA (oA u 26 g20) 2 (upd (u.2 2) (sg.1 0) (((u.2 2) (sg.1 0)) &&& (((1 : Int32) <<< ((nI a1) &&& 31)) ^^^ (-1 : Int32))))).1 0)) (C := RX5) (T := TX5) (N := 38) hx hb hts hiX5 hown hK hP 0 rfl rfl 0 (by decide) k91 (fun _ h9 => h9) rfl dX5_exclude_51 ?_
        refine topE hnv ?_
        refine lv_dup2_11 hx hb dX5_exclude_54 rfl rfl ?_
        refine ialdN (f := (oA (oA u 26 g20) 2 (upd (u.2 2) (sg.1 0) (((u.2 2) (sg.1 0)) &&& (((1 : Int32) <<< ((nI a1) &&& 31)) ^^^ (-1 : Int32))))).2 3) (n := 25) (k := sg.1 0) hx hb hK hP 3 rfl rfl (by omega) dX5_exclude_55 ?_
        refine lv_iconst (v := (1 : Int32)) hx hb dX5_exclude_56 (by decide) ?_
        refine lv_iload_n hx hb dX5_exclude_57 rfl (lv_at hl 1 rfl) ?_
        refine lv_ishl hx hb dX5_exclude_58 ?_
        refine lv_ior hx hb dX5_exclude_59 ?_
        refine iastN (f := (oA (oA u 26 g20) 2 (upd (u.2 2) (sg.1 0) (((u.2 2) (sg.1 0)) &&& (((1 : Int32) <<< ((nI a1) &&& 31)) ^^^ (-1 : Int32))))).2 3) (n := 25) (k := sg.1 0) hx hb hK hP hD hS 3 rfl rfl (by omega) dX5_exclude_60 (fun H locs hP hD hS => ?_)
        have hP : PP G (mw G h (oA (oA (oA u 26 g20) 2 (upd (u.2 2) (sg.1 0) (((u.2 2) (sg.1 0)) &&& (((1 : Int32) <<< ((nI a1) &&& 31)) ^^^ (-1 : Int32))))) 3 (upd ((oA (oA u 26 g20) 2 (upd (u.2 2) (sg.1 0) (((u.2 2) (sg.1 0)) &&& (((1 : Int32) <<< ((nI a1) &&& 31)) ^^^ (-1 : Int32))))).2 3) (sg.1 0) ((((oA (oA u 26 g20) 2 (upd (u.2 2) (sg.1 0) (((u.2 2) (sg.1 0)) &&& (((1 : Int32) <<< ((nI a1) &&& 31)) ^^^ (-1 : Int32))))).2 3) (sg.1 0)) ||| ((1 : Int32) <<< ((nI a1) &&& 31))))) lt sj) H := hP
        have hD : va_D A (mw G h (oA (oA (oA u 26 g20) 2 (upd (u.2 2) (sg.1 0) (((u.2 2) (sg.1 0)) &&& (((1 : Int32) <<< ((nI a1) &&& 31)) ^^^ (-1 : Int32))))) 3 (upd ((oA (oA u 26 g20) 2 (upd (u.2 2) (sg.1 0) (((u.2 2) (sg.1 0)) &&& (((1 : Int32) <<< ((nI a1) &&& 31)) ^^^ (-1 : Int32))))).2 3) (sg.1 0) ((((oA (oA u 26 g20) 2 (upd (u.2 2) (sg.1 0) (((u.2 2) (sg.1 0)) &&& (((1 : Int32) <<< ((nI a1) &&& 31)) ^^^ (-1 : Int32))))).2 3) (sg.1 0)) ||| ((1 : Int32) <<< ((nI a1) &&& 31))))) lt sj) := hD
        refine lv_aload_n hx hb dX5_exclude_61 rfl (lv_at hl 0 rfl) ?_
        have hP := mw_self26 hP
        have hD : va_D A (mw G h (oA (oA (oA (oA u 26 g20) 2 (upd (u.2 2) (sg.1 0) (((u.2 2) (sg.1 0)) &&& (((1 : Int32) <<< ((nI a1) &&& 31)) ^^^ (-1 : Int32))))) 3 (upd ((oA (oA u 26 g20) 2 (upd (u.2 2) (sg.1 0) (((u.2 2) (sg.1 0)) &&& (((1 : Int32) <<< ((nI a1) &&& 31)) ^^^ (-1 : Int32))))).2 3) (sg.1 0) ((((oA (oA u 26 g20) 2 (upd (u.2 2) (sg.1 0) (((u.2 2) (sg.1 0)) &&& (((1 : Int32) <<< ((nI a1) &&& 31)) ^^^ (-1 : Int32))))).2 3) (sg.1 0)) ||| ((1 : Int32) <<< ((nI a1) &&& 31))))) 26 ((oA (oA (oA u 26 g20) 2 (upd (u.2 2) (sg.1 0) (((u.2 2) (sg.1 0)) &&& (((1 : Int32) <<< ((nI a1) &&& 31)) ^^^ (-1 : Int32))))) 3 (upd ((oA (oA u 26 g20) 2 (upd (u.2 2) (sg.1 0) (((u.2 2) (sg.1 0)) &&& (((1 : Int32) <<< ((nI a1) &&& 31)) ^^^ (-1 : Int32))))).2 3) (sg.1 0) ((((oA (oA u 26 g20) 2 (upd (u.2 2) (sg.1 0) (((u.2 2) (sg.1 0)) &&& (((1 : Int32) <<< ((nI a1) &&& 31)) ^^^ (-1 : Int32))))).2 3) (sg.1 0)) ||| ((1 : Int32) <<< ((nI a1) &&& 31))))).2 26)) lt sj) := mw_self26D hD
        refine cXi (As := []) (rest := []) (S := oS × Int64 × (Nat → Int64)) (wa := mw G h (oA (oA (oA (oA u 26 g20) 2 (upd (u.2 2) (sg.1 0) (((u.2 2) (sg.1 0)) &&& (((1 : Int32) <<< ((nI a1) &&& 31)) ^^^ (-1 : Int32))))) 3 (upd ((oA (oA u 26 g20) 2 (upd (u.2 2) (sg.1 0) (((u.2 2) (sg.1 0)) &&& (((1 : Int32) <<< ((nI a1) &&& 31)) ^^^ (-1 : Int32))))).2 3) (sg.1 0) ((((oA (oA u 26 g20) 2 (upd (u.2 2) (sg.1 0) (((u.2 2) (sg.1 0)) &&& (((1 : Int32) <<< ((nI a1) &&& 31)) ^^^ (-1 : Int32))))).2 3) (sg.1 0)) ||| ((1 : Int32) <<< ((nI a1) &&& 31))))) 26 ((oA (oA (oA u 26 g20) 2 (upd (u.2 2) (sg.1 0) (((u.2 2) (sg.1 0)) &&& (((1 : Int32) <<< ((nI a1) &&& 31)) ^^^ (-1 : Int32))))) 3 (upd ((oA (oA u 26 g20) 2 (upd (u.2 2) (sg.1 0) (((u.2 2) (sg.1 0)) &&& (((1 : Int32) <<< ((nI a1) &&& 31)) ^^^ (-1 : Int32))))).2 3) (sg.1 0) ((((oA (oA u 26 g20) 2 (upd (u.2 2) (sg.1 0) (((u.2 2) (sg.1 0)) &&& (((1 : Int32) <<< ((nI a1) &&& 31)) ^^^ (-1 : Int32))))).2 3) (sg.1 0)) ||| ((1 : Int32) <<< ((nI a1) &&& 31))))).2 26)) lt sj) (w1 := fun v => mw G h v.1 v.2.1 v.2.2) ⟨hx, hb, hml, hown, hts⟩ (mt_X5_openLines l G h _ (oA (oA (oA u 26 g20) 2 (upd (u.2 2) (sg.1 0) (((u.2 2) (sg.1 0)) &&& (((1 : Int32) <<< ((nI a1) &&& 31)) ^^^ (-1 : Int32))))) 3 (upd ((oA (oA u 26 g20) 2 (upd (u.2 2) (sg.1 0) (((u.2 2) (sg.1 0)) &&& (((1 : Int32) <<< ((nI a1) &&& 31)) ^^^ (-1 : Int32))))).2 3) (sg.1 0) ((((oA (oA u 26 g20) 2 (upd (u.2 2) (sg.1 0) (((u.2 2) (sg.1 0)) &&& (((1 : Int32) <<< ((nI a1) &&& 31)) ^^^ (-1 : Int32))))).2 3) (sg.1 0)) ||| ((1 : Int32) <<< ((nI a1) &&& 31))))) lt sj ((oA (oA (oA u 26 g20) 2 (upd (u.2 2) (sg.1 0) (((u.2 2) (sg.1 0)) &&& (((1 : Int32) <<< ((nI a1) &&& 31)) ^^^ (-1 : Int32))))) 3 (upd ((oA (oA u 26 g20) 2 (upd (u.2 2) (sg.1 0) (((u.2 2) (sg.1 0)) &&& (((1 : Int32) <<< ((nI a1) &&& 31)) ^^^ (-1 : Int32))))).2 3) (sg.1 0) ((((oA (oA u 26 g20) 2 (upd (u.2 2) (sg.1 0) (((u.2 2) (sg.1 0)) &&& (((1 : Int32) <<< ((nI a1) &&& 31)) ^^^ (-1 : Int32))))).2 3) (sg.1 0)) ||| ((1 : Int32) <<< ((nI a1) &&& 31))))).2 26) (sg.1 0) (sg.1 4) (hnv) (hnl) (by first | assumption | omega) (by first | assumption | omega) (ho2)) (cwV 0 hts gX5_exclude_X5_openLines rfl rfl rfl ⟨rfl, hd_X5_openLines⟩ ⟨Nat.le_of_ble_eq_true rfl, Nat.le_of_ble_eq_true rfl⟩) hK hN hP hD hS hA (fun _ => rfl) 0 5 rfl rfl rfl hl.1 rfl (Nat.le_of_ble_eq_true rfl) ⟨Nat.zero_le _, Nat.zero_le _⟩ dX5_exclude_62 (fun r62 u62 H locs hw62 hP hD hS => ?_)
        obtain ⟨g62, rfl, rfl⟩ := hw62
        have hP : PP G (mw G h (oA (oA (oA (oA u 26 g20) 2 (upd (u.2 2) (sg.1 0) (((u.2 2) (sg.1 0)) &&& (((1 : Int32) <<< ((nI a1) &&& 31)) ^^^ (-1 : Int32))))) 3 (upd ((oA (oA u 26 g20) 2 (upd (u.2 2) (sg.1 0) (((u.2 2) (sg.1 0)) &&& (((1 : Int32) <<< ((nI a1) &&& 31)) ^^^ (-1 : Int32))))).2 3) (sg.1 0) ((((oA (oA u 26 g20) 2 (upd (u.2 2) (sg.1 0) (((u.2 2) (sg.1 0)) &&& (((1 : Int32) <<< ((nI a1) &&& 31)) ^^^ (-1 : Int32))))).2 3) (sg.1 0)) ||| ((1 : Int32) <<< ((nI a1) &&& 31))))) 26 g62) lt sj) H := hP
        have hD : va_D A (mw G h (oA (oA (oA (oA u 26 g20) 2 (upd (u.2 2) (sg.1 0) (((u.2 2) (sg.1 0)) &&& (((1 : Int32) <<< ((nI a1) &&& 31)) ^^^ (-1 : Int32))))) 3 (upd ((oA (oA u 26 g20) 2 (upd (u.2 2) (sg.1 0) (((u.2 2) (sg.1 0)) &&& (((1 : Int32) <<< ((nI a1) &&& 31)) ^^^ (-1 : Int32))))).2 3) (sg.1 0) ((((oA (oA u 26 g20) 2 (upd (u.2 2) (sg.1 0) (((u.2 2) (sg.1 0)) &&& (((1 : Int32) <<< ((nI a1) &&& 31)) ^^^ (-1 : Int32))))).2 3) (sg.1 0)) ||| ((1 : Int32) <<< ((nI a1) &&& 31))))) 26 g62) lt sj) := hD
        have hc62 := cnt_le (sdb ((oA (oA (oA u 26 g20) 2 (upd (u.2 2) (sg.1 0) (((u.2 2) (sg.1 0)) &&& (((1 : Int32) <<< ((nI a1) &&& 31)) ^^^ (-1 : Int32))))) 3 (upd ((oA (oA u 26 g20) 2 (upd (u.2 2) (sg.1 0) (((u.2 2) (sg.1 0)) &&& (((1 : Int32) <<< ((nI a1) &&& 31)) ^^^ (-1 : Int32))))).2 3) (sg.1 0) ((((oA (oA u 26 g20) 2 (upd (u.2 2) (sg.1 0) (((u.2 2) (sg.1 0)) &&& (((1 : Int32) <<< ((nI a1) &&& 31)) ^^^ (-1 : Int32))))).2 3) (sg.1 0)) ||| ((1 : Int32) <<< ((nI a1) &&& 31))))).2 6) ((oA (oA (oA u 26 g20) 2 (upd (u.2 2) (sg.1 0) (((u.2 2) (sg.1 0)) &&& (((1 : Int32) <<< ((nI a1) &&& 31)) ^^^ (-1 : Int32))))) 3 (upd ((oA (oA u 26 g20) 2 (upd (u.2 2) (sg.1 0) (((u.2 2) (sg.1 0)) &&& (((1 : Int32) <<< ((nI a1) &&& 31)) ^^^ (-1 : Int32))))).2 3) (sg.1 0) ((((oA (oA u 26 g20) 2 (upd (u.2 2) (sg.1 0) (((u.2 2) (sg.1 0)) &&& (((1 : Int32) <<< ((nI a1) &&& 31)) ^^^ (-1 : Int32))))).2 3) (sg.1 0)) ||| ((1 : Int32) <<< ((nI a1) &&& 31))))).2 7) (chV ((oA (oA (oA u 26 g20) 2 (upd (u.2 2) (sg.1 0) (((u.2 2) (sg.1 0)) &&& (((1 : Int32) <<< ((nI a1) &&& 31)) ^^^ (-1 : Int32))))) 3 (upd ((oA (oA u 26 g20) 2 (upd (u.2 2) (sg.1 0) (((u.2 2) (sg.1 0)) &&& (((1 : Int32) <<< ((nI a1) &&& 31)) ^^^ (-1 : Int32))))).2 3) (sg.1 0) ((((oA (oA u 26 g20) 2 (upd (u.2 2) (sg.1 0) (((u.2 2) (sg.1 0)) &&& (((1 : Int32) <<< ((nI a1) &&& 31)) ^^^ (-1 : Int32))))).2 3) (sg.1 0)) ||| ((1 : Int32) <<< ((nI a1) &&& 31))))).2 1) ((oA (oA (oA u 26 g20) 2 (upd (u.2 2) (sg.1 0) (((u.2 2) (sg.1 0)) &&& (((1 : Int32) <<< ((nI a1) &&& 31)) ^^^ (-1 : Int32))))) 3 (upd ((oA (oA u 26 g20) 2 (upd (u.2 2) (sg.1 0) (((u.2 2) (sg.1 0)) &&& (((1 : Int32) <<< ((nI a1) &&& 31)) ^^^ (-1 : Int32))))).2 3) (sg.1 0) ((((oA (oA u 26 g20) 2 (upd (u.2 2) (sg.1 0) (((u.2 2) (sg.1 0)) &&& (((1 : Int32) <<< ((nI a1) &&& 31)) ^^^ (-1 : Int32))))).2 3) (sg.1 0)) ||| ((1 : Int32) <<< ((nI a1) &&& 31))))).2 2) ((oA (oA (oA u 26 g20) 2 (upd (u.2 2) (sg.1 0) (((u.2 2) (sg.1 0)) &&& (((1 : Int32) <<< ((nI a1) &&& 31)) ^^^ (-1 : Int32))))) 3 (upd ((oA (oA u 26 g20) 2 (upd (u.2 2) (sg.1 0) (((u.2 2) (sg.1 0)) &&& (((1 : Int32) <<< ((nI a1) &&& 31)) ^^^ (-1 : Int32))))).2 3) (sg.1 0) ((((oA (oA u 26 g20) 2 (upd (u.2 2) (sg.1 0) (((u.2 2) (sg.1 0)) &&& (((1 : Int32) <<< ((nI a1) &&& 31)) ^^^ (-1 : Int32))))).2 3) (sg.1 0)) ||| ((1 : Int32) <<< ((nI a1) &&& 31))))).2 3) (nI (sg.1 0)))) (sg.1 4)
        exact W.iret (v := nI (cnt (sdb ((oA (oA (oA u 26 g20) 2 (upd (u.2 2) (sg.1 0) (((u.2 2) (sg.1 0)) &&& (((1 : Int32) <<< ((nI a1) &&& 31)) ^^^ (-1 : Int32))))) 3 (upd ((oA (oA u 26 g20) 2 (upd (u.2 2) (sg.1 0) (((u.2 2) (sg.1 0)) &&& (((1 : Int32) <<< ((nI a1) &&& 31)) ^^^ (-1 : Int32))))).2 3) (sg.1 0) ((((oA (oA u 26 g20) 2 (upd (u.2 2) (sg.1 0) (((u.2 2) (sg.1 0)) &&& (((1 : Int32) <<< ((nI a1) &&& 31)) ^^^ (-1 : Int32))))).2 3) (sg.1 0)) ||| ((1 : Int32) <<< ((nI a1) &&& 31))))).2 6) ((oA (oA (oA u 26 g20) 2 (upd (u.2 2) (sg.1 0) (((u.2 2) (sg.1 0)) &&& (((1 : Int32) <<< ((nI a1) &&& 31)) ^^^ (-1 : Int32))))) 3 (upd ((oA (oA u 26 g20) 2 (upd (u.2 2) (sg.1 0) (((u.2 2) (sg.1 0)) &&& (((1 : Int32) <<< ((nI a1) &&& 31)) ^^^ (-1 : Int32))))).2 3) (sg.1 0) ((((oA (oA u 26 g20) 2 (upd (u.2 2) (sg.1 0) (((u.2 2) (sg.1 0)) &&& (((1 : Int32) <<< ((nI a1) &&& 31)) ^^^ (-1 : Int32))))).2 3) (sg.1 0)) ||| ((1 : Int32) <<< ((nI a1) &&& 31))))).2 7) (chV ((oA (oA (oA u 26 g20) 2 (upd (u.2 2) (sg.1 0) (((u.2 2) (sg.1 0)) &&& (((1 : Int32) <<< ((nI a1) &&& 31)) ^^^ (-1 : Int32))))) 3 (upd ((oA (oA u 26 g20) 2 (upd (u.2 2) (sg.1 0) (((u.2 2) (sg.1 0)) &&& (((1 : Int32) <<< ((nI a1) &&& 31)) ^^^ (-1 : Int32))))).2 3) (sg.1 0) ((((oA (oA u 26 g20) 2 (upd (u.2 2) (sg.1 0) (((u.2 2) (sg.1 0)) &&& (((1 : Int32) <<< ((nI a1) &&& 31)) ^^^ (-1 : Int32))))).2 3) (sg.1 0)) ||| ((1 : Int32) <<< ((nI a1) &&& 31))))).2 1) ((oA (oA (oA u 26 g20) 2 (upd (u.2 2) (sg.1 0) (((u.2 2) (sg.1 0)) &&& (((1 : Int32) <<< ((nI a1) &&& 31)) ^^^ (-1 : Int32))))) 3 (upd ((oA (oA u 26 g20) 2 (upd (u.2 2) (sg.1 0) (((u.2 2) (sg.1 0)) &&& (((1 : Int32) <<< ((nI a1) &&& 31)) ^^^ (-1 : Int32))))).2 3) (sg.1 0) ((((oA (oA u 26 g20) 2 (upd (u.2 2) (sg.1 0) (((u.2 2) (sg.1 0)) &&& (((1 : Int32) <<< ((nI a1) &&& 31)) ^^^ (-1 : Int32))))).2 3) (sg.1 0)) ||| ((1 : Int32) <<< ((nI a1) &&& 31))))).2 2) ((oA (oA (oA u 26 g20) 2 (upd (u.2 2) (sg.1 0) (((u.2 2) (sg.1 0)) &&& (((1 : Int32) <<< ((nI a1) &&& 31)) ^^^ (-1 : Int32))))) 3 (upd ((oA (oA u 26 g20) 2 (upd (u.2 2) (sg.1 0) (((u.2 2) (sg.1 0)) &&& (((1 : Int32) <<< ((nI a1) &&& 31)) ^^^ (-1 : Int32))))).2 3) (sg.1 0) ((((oA (oA u 26 g20) 2 (upd (u.2 2) (sg.1 0) (((u.2 2) (sg.1 0)) &&& (((1 : Int32) <<< ((nI a1) &&& 31)) ^^^ (-1 : Int32))))).2 3) (sg.1 0)) ||| ((1 : Int32) <<< ((nI a1) &&& 31))))).2 3) (nI (sg.1 0)))) (sg.1 4))) hx hb hr (fun t ht hW => ⟨⟨nI (cnt (sdb ((oA (oA (oA u 26 g20) 2 (upd (u.2 2) (sg.1 0) (((u.2 2) (sg.1 0)) &&& (((1 : Int32) <<< ((nI a1) &&& 31)) ^^^ (-1 : Int32))))) 3 (upd ((oA (oA u 26 g20) 2 (upd (u.2 2) (sg.1 0) (((u.2 2) (sg.1 0)) &&& (((1 : Int32) <<< ((nI a1) &&& 31)) ^^^ (-1 : Int32))))).2 3) (sg.1 0) ((((oA (oA u 26 g20) 2 (upd (u.2 2) (sg.1 0) (((u.2 2) (sg.1 0)) &&& (((1 : Int32) <<< ((nI a1) &&& 31)) ^^^ (-1 : Int32))))).2 3) (sg.1 0)) ||| ((1 : Int32) <<< ((nI a1) &&& 31))))).2 6) ((oA (oA (oA u 26 g20) 2 (upd (u.2 2) (sg.1 0) (((u.2 2) (sg.1 0)) &&& (((1 : Int32) <<< ((nI a1) &&& 31)) ^^^ (-1 : Int32))))) 3 (upd ((oA (oA u 26 g20) 2 (upd (u.2 2) (sg.1 0) (((u.2 2) (sg.1 0)) &&& (((1 : Int32) <<< ((nI a1) &&& 31)) ^^^ (-1 : Int32))))).2 3) (sg.1 0) ((((oA (oA u 26 g20) 2 (upd (u.2 2) (sg.1 0) (((u.2 2) (sg.1 0)) &&& (((1 : Int32) <<< ((nI a1) &&& 31)) ^^^ (-1 : Int32))))).2 3) (sg.1 0)) ||| ((1 : Int32) <<< ((nI a1) &&& 31))))).2 7) (chV ((oA (oA (oA u 26 g20) 2 (upd (u.2 2) (sg.1 0) (((u.2 2) (sg.1 0)) &&& (((1 : Int32) <<< ((nI a1) &&& 31)) ^^^ (-1 : Int32))))) 3 (upd ((oA (oA u 26 g20) 2 (upd (u.2 2) (sg.1 0) (((u.2 2) (sg.1 0)) &&& (((1 : Int32) <<< ((nI a1) &&& 31)) ^^^ (-1 : Int32))))).2 3) (sg.1 0) ((((oA (oA u 26 g20) 2 (upd (u.2 2) (sg.1 0) (((u.2 2) (sg.1 0)) &&& (((1 : Int32) <<< ((nI a1) &&& 31)) ^^^ (-1 : Int32))))).2 3) (sg.1 0)) ||| ((1 : Int32) <<< ((nI a1) &&& 31))))).2 1) ((oA (oA (oA u 26 g20) 2 (upd (u.2 2) (sg.1 0) (((u.2 2) (sg.1 0)) &&& (((1 : Int32) <<< ((nI a1) &&& 31)) ^^^ (-1 : Int32))))) 3 (upd ((oA (oA u 26 g20) 2 (upd (u.2 2) (sg.1 0) (((u.2 2) (sg.1 0)) &&& (((1 : Int32) <<< ((nI a1) &&& 31)) ^^^ (-1 : Int32))))).2 3) (sg.1 0) ((((oA (oA u 26 g20) 2 (upd (u.2 2) (sg.1 0) (((u.2 2) (sg.1 0)) &&& (((1 : Int32) <<< ((nI a1) &&& 31)) ^^^ (-1 : Int32))))).2 3) (sg.1 0)) ||| ((1 : Int32) <<< ((nI a1) &&& 31))))).2 2) ((oA (oA (oA u 26 g20) 2 (upd (u.2 2) (sg.1 0) (((u.2 2) (sg.1 0)) &&& (((1 : Int32) <<< ((nI a1) &&& 31)) ^^^ (-1 : Int32))))) 3 (upd ((oA (oA u 26 g20) 2 (upd (u.2 2) (sg.1 0) (((u.2 2) (sg.1 0)) &&& (((1 : Int32) <<< ((nI a1) &&& 31)) ^^^ (-1 : Int32))))).2 3) (sg.1 0) ((((oA (oA u 26 g20) 2 (upd (u.2 2) (sg.1 0) (((u.2 2) (sg.1 0)) &&& (((1 : Int32) <<< ((nI a1) &&& 31)) ^^^ (-1 : Int32))))).2 3) (sg.1 0)) ||| ((1 : Int32) <<< ((nI a1) &&& 31))))).2 3) (nI (sg.1 0)))) (sg.1 4)), (oA (oA (oA (oA u 26 g20) 2 (upd (u.2 2) (sg.1 0) (((u.2 2) (sg.1 0)) &&& (((1 : Int32) <<< ((nI a1) &&& 31)) ^^^ (-1 : Int32))))) 3 (upd ((oA (oA u 26 g20) 2 (upd (u.2 2) (sg.1 0) (((u.2 2) (sg.1 0)) &&& (((1 : Int32) <<< ((nI a1) &&& 31)) ^^^ (-1 : Int32))))).2 3) (sg.1 0) ((((oA (oA u 26 g20) 2 (upd (u.2 2) (sg.1 0) (((u.2 2) (sg.1 0)) &&& (((1 : Int32) <<< ((nI a1) &&& 31)) ^^^ (-1 : Int32))))).2 3) (sg.1 0)) ||| ((1 : Int32) <<< ((nI a1) &&& 31))))) 26 g62, lt, sj), rfl, ⟨by rw [excF, if_neg (not_not_intro (inR_t ha1 (by omega))), vN_n (by omega), if_neg (fun q => by rcases q with q | q; exact (fun q9 => c15 (h8e.trans (by rw [q9]; rfl))) q; exact q (by rw [← (show CM u sg (sg.1 0 + 1) from (show sg.1 8 = 1 by have h8 : ¬ sg.1 8 = 0 := (fun q9 => c15 (h8e.trans (by rw [q9]; rfl))); omega) ▸ hC).cv (show IC sg (sg.1 0 + 1) from (show sg.1 8 = 1 by have h8 : ¬ sg.1 8 = 0 := (fun q9 => c15 (h8e.trans (by rw [q9]; rfl))); omega) ▸ hic) (Nat.lt_succ_self _)]; exact hasb_t hy20))]; exact RepM_26 _ (RepM.lines (RepM_26 g20 hRM) (by rw [(show sg.1 8 = 1 by have h8 : ¬ sg.1 8 = 0 := (fun q9 => c15 (h8e.trans (by rw [q9]; rfl))); omega)]; exact CM.of ((show CM u sg (sg.1 0 + 1) from (show sg.1 8 = 1 by have h8 : ¬ sg.1 8 = 0 := (fun q9 => c15 (h8e.trans (by rw [q9]; rfl))); omega) ▸ hC).exc (v := a1)) rfl rfl rfl rfl rfl rfl rfl rfl) (fun _ _ => rfl) (fun k h8 h26 => by rw [oA_2, if_neg (by omega), oA_2, if_neg (by omega)]) (stL_exc sg a1)), by rw [excA, if_neg (not_not_intro (inR_t ha1 (by omega))), vN_n (by omega), if_neg (fun q => by rcases q with q | q; exact (fun q9 => c15 (h8e.trans (by rw [q9]; rfl))) q; exact q (by rw [← (show CM u sg (sg.1 0 + 1) from (show sg.1 8 = 1 by have h8 : ¬ sg.1 8 = 0 := (fun q9 => c15 (h8e.trans (by rw [q9]; rfl))); omega) ▸ hC).cv (show IC sg (sg.1 0 + 1) from (show sg.1 8 = 1 by have h8 : ¬ sg.1 8 = 0 := (fun q9 => c15 (h8e.trans (by rw [q9]; rfl))); omega) ▸ hic) (Nat.lt_succ_self _)]; exact hasb_t hy20))]; exact congrArg nI (olS_M (s := sExc sg a1) ((show CM u sg (sg.1 0 + 1) from (show sg.1 8 = 1 by have h8 : ¬ sg.1 8 = 0 := (fun q9 => c15 (h8e.trans (by rw [q9]; rfl))); omega) ▸ hC).exc (v := a1)) (show IC sg (sg.1 0 + 1) from (show sg.1 8 = 1 by have h8 : ¬ sg.1 8 = 0 := (fun q9 => c15 (h8e.trans (by rw [q9]; rfl))); omega) ▸ hic))⟩, show PP G (mw G h (oA (oA (oA (oA u 26 g20) 2 (upd (u.2 2) (sg.1 0) (((u.2 2) (sg.1 0)) &&& (((1 : Int32) <<< ((nI a1) &&& 31)) ^^^ (-1 : Int32))))) 3 (upd ((oA (oA u 26 g20) 2 (upd (u.2 2) (sg.1 0) (((u.2 2) (sg.1 0)) &&& (((1 : Int32) <<< ((nI a1) &&& 31)) ^^^ (-1 : Int32))))).2 3) (sg.1 0) ((((oA (oA u 26 g20) 2 (upd (u.2 2) (sg.1 0) (((u.2 2) (sg.1 0)) &&& (((1 : Int32) <<< ((nI a1) &&& 31)) ^^^ (-1 : Int32))))).2 3) (sg.1 0)) ||| ((1 : Int32) <<< ((nI a1) &&& 31))))) 26 g62) lt sj) t.heap by rw [ht]; exact hP⟩, hS.F ht⟩) hS.2.2 dX5_exclude_65
      · skip
        have hP : PP G (mw G h (oA u 26 g20) lt sj) H := hP
        have hD : va_D A (mw G h (oA u 26 g20) lt sj) := hD
        refine lv_if_ne (tgt := 29) hx hb dX5_exclude_23 (by decide) (fun c9 => absurd (by decide) c9) (fun _ => ?_)
        refine lv_ldc (v := (-1000000003 : Int32)) hx hb hown (hts (.constant RX5 225 (-1000000003)) (List.mem_of_getElem? (i := 3) rfl)) dX5_exclude_26 ?_
        exact W.iret (v := (-1000000003 : Int32)) hx hb hr (fun t ht hW => ⟨⟨(-1000000003 : Int32), (oA u 26 g20, lt, sj), rfl, ⟨by rw [excF, if_neg (not_not_intro (inR_t ha1 (by omega))), vN_n (by omega), if_pos (Or.inr (by rw [← (show CM u sg (sg.1 0 + 1) from (show sg.1 8 = 1 by have h8 : ¬ sg.1 8 = 0 := (fun q9 => c15 (h8e.trans (by rw [q9]; rfl))); omega) ▸ hC).cv (show IC sg (sg.1 0 + 1) from (show sg.1 8 = 1 by have h8 : ¬ sg.1 8 = 0 := (fun q9 => c15 (h8e.trans (by rw [q9]; rfl))); omega) ▸ hic) (Nat.lt_succ_self _)]; exact hasb_f hn20))]; exact RepM_26 _ hRM, by rw [excA, if_neg (not_not_intro (inR_t ha1 (by omega))), vN_n (by omega), if_pos (Or.inr (by rw [← (show CM u sg (sg.1 0 + 1) from (show sg.1 8 = 1 by have h8 : ¬ sg.1 8 = 0 := (fun q9 => c15 (h8e.trans (by rw [q9]; rfl))); omega) ▸ hC).cv (show IC sg (sg.1 0 + 1) from (show sg.1 8 = 1 by have h8 : ¬ sg.1 8 = 0 := (fun q9 => c15 (h8e.trans (by rw [q9]; rfl))); omega) ▸ hic) (Nat.lt_succ_self _)]; exact hasb_f hn20))]⟩, show PP G (mw G h (oA u 26 g20) lt sj) t.heap by rw [ht]; exact hP⟩, hS.F ht⟩) hS.2.2 dX5_exclude_28
  · skip
    refine lv_if_ne (tgt := 11) hx hb dX5_exclude_5 (by decide) (fun c9 => absurd (by decide) c9) (fun _ => ?_)
    refine lv_ldc (v := (-1000000001 : Int32)) hx hb hown (hts (.constant RX5 216 (-1000000001)) (List.mem_of_getElem? (i := 1) rfl)) dX5_exclude_8 ?_
    exact W.iret (v := (-1000000001 : Int32)) hx hb hr (fun t ht hW => ⟨⟨(-1000000001 : Int32), (u, lt, sj), rfl, ⟨by rw [excF, if_pos (inR_f (by omega) hna1)]; exact hRM, by rw [excA, if_pos (inR_f (by omega) hna1)]⟩, show PP G (mw G h u lt sj) t.heap by rw [ht]; exact hP⟩, hS.F ht⟩) hS.2.2 dX5_exclude_10
theorem holB (x : Int32) {v : Nat} (hv : v < 24) : decide (¬ x &&& b1 v = 0) = hasb x v := by
  rw [hasb_bt hv]
  cases hb : bt x v
  · exact decide_eq_false (not_not_intro ((hol_iff hv).mpr hb))
  · refine decide_eq_true (fun q => ?_)
    rw [(hol_iff hv).mp q] at hb
    cases hb

set_option maxHeartbeats 1000000 in
set_option maxRecDepth 100000 in
theorem mt_X4_versionS (l : Launch) (G : gG) (h : Nat → Nat) (x : oS) (wn : oS) (wa : oS) (w0 : oS) (w1 : oS) (rd : oS) (wr : oS) (z : oS) (jj : Nat → Nat → Int64) (lt : Int64) (sg : pS) (zz : Nat → Nat → Int64) (a : Int32) (what : Int32) (hIS : IS sg) (hRX : RepX x wn wa w0 w1 rd z jj sg zz) : Met l yX4_version wsX4_version ({ frames := 3, cells := 0, slots := 0, locals := 67 }) (preR G (xw G h x wn wa w0 w1 rd wr z jj lt) [.ref (h 0), .int a, .int what]) (vp_Si (fun r : Int32 => r = verA sg a what)) 0 0 (fun _ => False) := by
  refine Met.ofW (cc := cX4_version) (maxL := 3) (ret := (some .int)) (by decide) rfl ?_
  intro p e s m args below meth c s₁ B hml hv
  obtain ⟨ha, hP, hK, hN⟩ := hv
  subst ha
  have hx := B.exec
  have hb := B.bytes
  have hr := B.returns
  have hts := atoms_spec (ws := wsX4_version) B.pre
  have hown : s.vm.findClass RX4 = some m.cls := findClass_of_methodNamed B.named
  have hlocks := B.notSynchronized
  have hiX4 : ∀ w ∈ wsX40, w ∈ wsX4_version := fun w h9 => List.mem_cons_of_mem _ (List.mem_append_left _ (List.mem_append_right _ (h9)))
  have k10 := hts (.fieldLink RX4 10 "WovenHistory" "now" "LWovenHistory$Weave;") (List.mem_of_getElem? (i := 1) rfl)
  have hiX3 : ∀ w ∈ wsX30, w ∈ wsX4_version := fun w h9 => List.mem_cons_of_mem _ (List.mem_append_right _ (h9))
  have k111 : (Cond.fieldLinkNest "WovenHistory" 111 "WovenHistory$Weave" "from" "[I" "WovenHistory").before _ s = true := va_Nw.use (A := ([.ref (h 0), .int a, .int what] : List Value).toArray) rfl (hN.1 ("WovenHistory", 111, "WovenHistory$Weave", "from", "[I") (List.mem_of_getElem? (i := 0) rfl))
  have k115 : (Cond.fieldLinkNest "WovenHistory" 115 "WovenHistory$Weave" "changes" "[I" "WovenHistory").before _ s = true := va_Nw.use (A := ([.ref (h 0), .int a, .int what] : List Value).toArray) rfl (hN.1 ("WovenHistory", 115, "WovenHistory$Weave", "changes", "[I") (List.mem_of_getElem? (i := 1) rfl))
  have k118 : (Cond.fieldLinkNest "WovenHistory" 118 "WovenHistory$Weave" "included" "[I" "WovenHistory").before _ s = true := va_Nw.use (A := ([.ref (h 0), .int a, .int what] : List Value).toArray) rfl (hN.1 ("WovenHistory", 118, "WovenHistory$Weave", "included", "[I") (List.mem_of_getElem? (i := 2) rfl))
  have k121 : (Cond.fieldLinkNest "WovenHistory" 121 "WovenHistory$Weave" "excluded" "[I" "WovenHistory").before _ s = true := va_Nw.use (A := ([.ref (h 0), .int a, .int what] : List Value).toArray) rfl (hN.1 ("WovenHistory", 121, "WovenHistory$Weave", "excluded", "[I") (List.mem_of_getElem? (i := 3) rfl))
  have hl := lv_entry ([.ref (h 0), .int a, .int what]) (n := 3) (Nat.le_of_ble_eq_true rfl)
  rw [lg_entry_eq]
  generalize (lg_sl ([.ref (h 0), .int a, .int what]) ++ List.replicate (3 - (lg_sl ([.ref (h 0), .int a, .int what])).length) Slot.unset).toArray = ls at hl ⊢
  have hl : lv_has ls 3 [(0, .ref (h 0)), (1, .int a), (2, .int what)] := hl
  have hC := hRX.1
  have hic := hIS.ic
  have hv24 := hIS.1
  have hl120 := hIS.2.1
  have ho1 := hIS.2.2.1
  refine lv_aload_n hx hb dX4_version_0 rfl (lv_at hl 0 rfl) ?_
  refine va_get (D := gD G) (ci := 4) (v := .ref (h 10)) (C := RX4) (T := TX4) (N := 9) hx hb hts hiX4 hown hK hP 0 (xp_0 _ _ _ _ _ _ _ _ _ _ _ _) rfl 0 (by decide) k10 (fun _ h9 => h9) rfl dX4_version_1 ?_
  refine lv_iload_n hx hb dX4_version_4 rfl (lv_at hl 1 rfl) ?_
  refine cRi (w := wv G (fun k => h (10 + k)) wn) (As := [.int a]) (rest := []) ⟨hx, hb, hml, hown, hts⟩ (mt_X3_hasVersion l G (fun k => h (10 + k)) wn (sg.1 0) a (hC.1) (by first | assumption | omega)) (cwV 1 hts gX4_version_X3_hasVersion rfl rfl rfl ⟨rfl, hd_X3_hasVersion⟩ ⟨Nat.le_of_ble_eq_true rfl, Nat.le_of_ble_eq_true rfl⟩) hK hN (hP.sub [3, 4, 5, 6, 7, 8, 9, 10] (xf_now _ _ _ _ _ _ _ _ _ _ _ _)) 0 3 rfl rfl rfl hl.1 rfl (Nat.le_of_ble_eq_true rfl) ⟨Nat.zero_le _, Nat.zero_le _⟩ dX4_version_5 (fun r5 hw5 => ?_)
  rcases hw5 with ⟨rfl, a1, ha1, rfl⟩ | ⟨rfl, hna1⟩
  · skip
    refine lv_if_ne (tgt := 14) hx hb dX4_version_8 (by decide) (fun _ => ?_) (fun c9 => absurd c9 (by decide))
    refine lv_iload_n hx hb dX4_version_14 rfl (lv_at hl 2 rfl) ?_
    by_cases q15_0 : what = 0
    · skip
      subst q15_0
      refine lv_tableIn (tgt := 56) hx hb dX4_version_15 (by decide) (by decide) rfl (by decide) ?_
      refine lv_aload_n hx hb dX4_version_56 rfl (lv_at hl 0 rfl) ?_
      refine va_get (D := gD G) (ci := 4) (v := .ref (h 10)) (C := RX4) (T := TX4) (N := 9) hx hb hts hiX4 hown hK hP 0 (xp_0 _ _ _ _ _ _ _ _ _ _ _ _) rfl 0 (by decide) k10 (fun _ h9 => h9) rfl dX4_version_57 ?_
      refine va_getN (D := gD G) (ci := 3) (v := .ref (h 11)) (C := RX3) (T := TX3) (N := 9) hx hb hts hiX3 hown hK hP 3 (xp_3 _ _ _ _ _ _ _ _ _ _ _ _) rfl 1 (by decide) k111 (fun _ h9 => h9) rfl dX4_version_60 ?_
      refine lv_iload_n hx hb dX4_version_63 rfl (lv_at hl 1 rfl) ?_
      refine ialdN (f := wn.2 1) (n := 24) (k := a1) hx hb hK hP 4 (xp_4 _ _ _ _ _ _ _ _ _ _ _ _) rfl (by omega) dX4_version_64 ?_
      exact W.iret (v := (wn.2 1) a1) hx hb hr (fun t ht hW => ⟨(wn.2 1) a1, rfl, by rw [verA, if_pos (inR_t ha1 (by omega)), vN_n (by omega), verB, if_pos rfl]; exact hC.2.2.1 a1 (by omega), ht⟩) (fun _ h9 => by cases h9) dX4_version_65
    by_cases q15_1 : what = 1
    · skip
      subst q15_1
      refine lv_tableIn (tgt := 66) hx hb dX4_version_15 (by decide) (by decide) rfl (by decide) ?_
      refine lv_aload_n hx hb dX4_version_66 rfl (lv_at hl 0 rfl) ?_
      refine va_get (D := gD G) (ci := 4) (v := .ref (h 10)) (C := RX4) (T := TX4) (N := 9) hx hb hts hiX4 hown hK hP 0 (xp_0 _ _ _ _ _ _ _ _ _ _ _ _) rfl 0 (by decide) k10 (fun _ h9 => h9) rfl dX4_version_67 ?_
      refine va_getN (D := gD G) (ci := 3) (v := .ref (h 14)) (C := RX3) (T := TX3) (N := 9) hx hb hts hiX3 hown hK hP 3 (xp_3 _ _ _ _ _ _ _ _ _ _ _ _) rfl 4 (by decide) k115 (fun _ h9 => h9) rfl dX4_version_70 ?_
      refine lv_iload_n hx hb dX4_version_73 rfl (lv_at hl 1 rfl) ?_
      refine ialdN (f := wn.2 4) (n := 24) (k := a1) hx hb hK hP 7 (xp_7 _ _ _ _ _ _ _ _ _ _ _ _) rfl (by omega) dX4_version_74 ?_
      exact W.iret (v := (wn.2 4) a1) hx hb hr (fun t ht hW => ⟨(wn.2 4) a1, rfl, by rw [verA, if_pos (inR_t ha1 (by omega)), vN_n (by omega), verB, if_neg (show ¬ (1 : Int32) = (0 : Int32) by decide), if_pos rfl]; exact (hC.2.2.2.2.2.1 a1 (by omega)), ht⟩) (fun _ h9 => by cases h9) dX4_version_75
    by_cases q15_2 : what = 2
    · skip
      subst q15_2
      refine lv_tableIn (tgt := 76) hx hb dX4_version_15 (by decide) (by decide) rfl (by decide) ?_
      refine lv_aload_n hx hb dX4_version_76 rfl (lv_at hl 0 rfl) ?_
      refine va_get (D := gD G) (ci := 4) (v := .ref (h 10)) (C := RX4) (T := TX4) (N := 9) hx hb hts hiX4 hown hK hP 0 (xp_0 _ _ _ _ _ _ _ _ _ _ _ _) rfl 0 (by decide) k10 (fun _ h9 => h9) rfl dX4_version_77 ?_
      refine va_getN (D := gD G) (ci := 3) (v := .ref (h 12)) (C := RX3) (T := TX3) (N := 9) hx hb hts hiX3 hown hK hP 3 (xp_3 _ _ _ _ _ _ _ _ _ _ _ _) rfl 2 (by decide) k118 (fun _ h9 => h9) rfl dX4_version_80 ?_
      refine lv_iload_n hx hb dX4_version_83 rfl (lv_at hl 1 rfl) ?_
      refine ialdN (f := wn.2 2) (n := 24) (k := a1) hx hb hK hP 5 (xp_5 _ _ _ _ _ _ _ _ _ _ _ _) rfl (by omega) dX4_version_84 ?_
      exact W.iret (v := (wn.2 2) a1) hx hb hr (fun t ht hW => ⟨(wn.2 2) a1, rfl, by rw [verA, if_pos (inR_t ha1 (by omega)), vN_n (by omega), verB, if_neg (show ¬ (2 : Int32) = (0 : Int32) by decide), if_neg (show ¬ (2 : Int32) = (1 : Int32) by decide), if_pos rfl]; exact hC.2.2.2.1 a1 (by omega), ht⟩) (fun _ h9 => by cases h9) dX4_version_85
    by_cases q15_3 : what = 3
    · skip
      subst q15_3
      refine lv_tableIn (tgt := 86) hx hb dX4_version_15 (by decide) (by decide) rfl (by decide) ?_
      refine lv_aload_n hx hb dX4_version_86 rfl (lv_at hl 0 rfl) ?_
      refine va_get (D := gD G) (ci := 4) (v := .ref (h 10)) (C := RX4) (T := TX4) (N := 9) hx hb hts hiX4 hown hK hP 0 (xp_0 _ _ _ _ _ _ _ _ _ _ _ _) rfl 0 (by decide) k10 (fun _ h9 => h9) rfl dX4_version_87 ?_
      refine va_getN (D := gD G) (ci := 3) (v := .ref (h 13)) (C := RX3) (T := TX3) (N := 9) hx hb hts hiX3 hown hK hP 3 (xp_3 _ _ _ _ _ _ _ _ _ _ _ _) rfl 3 (by decide) k121 (fun _ h9 => h9) rfl dX4_version_90 ?_
      refine lv_iload_n hx hb dX4_version_93 rfl (lv_at hl 1 rfl) ?_
      refine ialdN (f := wn.2 3) (n := 24) (k := a1) hx hb hK hP 6 (xp_6 _ _ _ _ _ _ _ _ _ _ _ _) rfl (by omega) dX4_version_94 ?_
      exact W.iret (v := (wn.2 3) a1) hx hb hr (fun t ht hW => ⟨(wn.2 3) a1, rfl, by rw [verA, if_pos (inR_t ha1 (by omega)), vN_n (by omega), verB, if_neg (show ¬ (3 : Int32) = (0 : Int32) by decide), if_neg (show ¬ (3 : Int32) = (1 : Int32) by decide), if_neg (show ¬ (3 : Int32) = (2 : Int32) by decide), if_pos rfl]; exact hC.2.2.2.2.1 a1 (by omega), ht⟩) (fun _ h9 => by cases h9) dX4_version_95
    by_cases q15_4 : what = 4
    · skip
      subst q15_4
      refine lv_tableIn (tgt := 96) hx hb dX4_version_15 (by decide) (by decide) rfl (by decide) ?_
      refine lv_aload_n hx hb dX4_version_96 rfl (lv_at hl 0 rfl) ?_
      refine va_get (D := gD G) (ci := 4) (v := .ref (h 10)) (C := RX4) (T := TX4) (N := 9) hx hb hts hiX4 hown hK hP 0 (xp_0 _ _ _ _ _ _ _ _ _ _ _ _) rfl 0 (by decide) k10 (fun _ h9 => h9) rfl dX4_version_97 ?_
      refine lv_aload_n hx hb dX4_version_100 rfl (lv_at hl 0 rfl) ?_
      refine va_get (D := gD G) (ci := 4) (v := .ref (h 10)) (C := RX4) (T := TX4) (N := 9) hx hb hts hiX4 hown hK hP 0 (xp_0 _ _ _ _ _ _ _ _ _ _ _ _) rfl 0 (by decide) k10 (fun _ h9 => h9) rfl dX4_version_101 ?_
      refine va_getN (D := gD G) (ci := 3) (v := .ref (h 14)) (C := RX3) (T := TX3) (N := 9) hx hb hts hiX3 hown hK hP 3 (xp_3 _ _ _ _ _ _ _ _ _ _ _ _) rfl 4 (by decide) k115 (fun _ h9 => h9) rfl dX4_version_104 ?_
      refine lv_iload_n hx hb dX4_version_107 rfl (lv_at hl 1 rfl) ?_
      refine ialdN (f := wn.2 4) (n := 24) (k := a1) hx hb hK hP 7 (xp_7 _ _ _ _ _ _ _ _ _ _ _ _) rfl (by omega) dX4_version_108 ?_
      refine cRi (w := wv G (fun k => h (10 + k)) wn) (As := [.int ((wn.2 4) a1)]) (rest := []) ⟨hx, hb, hml, hown, hts⟩ (mt_X3_countStanding l G (fun k => h (10 + k)) wn (sg.1 4) ((wn.2 4) a1) (hC.2.1) (by first | assumption | omega)) (cwV 1 hts gX4_version_X3_countStanding rfl rfl rfl ⟨rfl, hd_X3_countStanding⟩ ⟨Nat.le_of_ble_eq_true rfl, Nat.le_of_ble_eq_true rfl⟩) hK hN (hP.sub [3, 4, 5, 6, 7, 8, 9, 10] (xf_now _ _ _ _ _ _ _ _ _ _ _ _)) 0 3 rfl rfl rfl hl.1 rfl (Nat.le_of_ble_eq_true rfl) ⟨Nat.zero_le _, Nat.zero_le _⟩ dX4_version_109 (fun r109 hw109 => ?_)
      obtain rfl := hw109
      have hc109 := cnt_le (sdb (wn.2 7) (wn.2 8) ((wn.2 4) a1)) (sg.1 4)
      exact W.iret (v := nI (cnt (sdb (wn.2 7) (wn.2 8) ((wn.2 4) a1)) (sg.1 4))) hx hb hr (fun t ht hW => ⟨nI (cnt (sdb (wn.2 7) (wn.2 8) ((wn.2 4) a1)) (sg.1 4)), rfl, by rw [verA, if_pos (inR_t ha1 (by omega)), vN_n (by omega), verB, if_neg (show ¬ (4 : Int32) = (0 : Int32) by decide), if_neg (show ¬ (4 : Int32) = (1 : Int32) by decide), if_neg (show ¬ (4 : Int32) = (2 : Int32) by decide), if_neg (show ¬ (4 : Int32) = (3 : Int32) by decide), if_pos rfl]; exact by rw [(hC.2.2.2.2.2.1 a1 (by omega))]; exact congrArg nI (hC.nl _), ht⟩) (fun _ h9 => by cases h9) dX4_version_112
    by_cases q15_5 : what = 5
    · skip
      subst q15_5
      refine lv_tableIn (tgt := 113) hx hb dX4_version_15 (by decide) (by decide) rfl (by decide) ?_
      refine lv_aload_n hx hb dX4_version_113 rfl (lv_at hl 0 rfl) ?_
      refine va_get (D := gD G) (ci := 4) (v := .ref (h 10)) (C := RX4) (T := TX4) (N := 9) hx hb hts hiX4 hown hK hP 0 (xp_0 _ _ _ _ _ _ _ _ _ _ _ _) rfl 0 (by decide) k10 (fun _ h9 => h9) rfl dX4_version_114 ?_
      refine lv_iload_n hx hb dX4_version_117 rfl (lv_at hl 1 rfl) ?_
      refine cRi (w := wv G (fun k => h (10 + k)) wn) (As := [.int (nI a1)]) (rest := []) ⟨hx, hb, hml, hown, hts⟩ (mt_X3_countBroughtF l G (fun k => h (10 + k)) wn (sg.1 4) (nI a1) (hC.2.1) (by first | assumption | omega)) (cwV 1 hts gX4_version_X3_countBrought rfl rfl rfl ⟨rfl, hd_X3_countBrought⟩ ⟨Nat.le_of_ble_eq_true rfl, Nat.le_of_ble_eq_true rfl⟩) hK hN (hP.sub [3, 4, 5, 6, 7, 8, 9, 10] (xf_now _ _ _ _ _ _ _ _ _ _ _ _)) 0 3 rfl rfl rfl hl.1 rfl (Nat.le_of_ble_eq_true rfl) ⟨Nat.zero_le _, Nat.zero_le _⟩ dX4_version_118 (fun r118 hw118 => ?_)
      obtain rfl := hw118
      have hc118 := cnt_le (fun i => decide (wn.2 7 i = (nI a1))) (sg.1 4)
      exact W.iret (v := nI (cnt (fun i => decide (wn.2 7 i = (nI a1))) (sg.1 4))) hx hb hr (fun t ht hW => ⟨nI (cnt (fun i => decide (wn.2 7 i = (nI a1))) (sg.1 4)), rfl, by rw [verA, if_pos (inR_t ha1 (by omega)), vN_n (by omega), verB, if_neg (show ¬ (5 : Int32) = (0 : Int32) by decide), if_neg (show ¬ (5 : Int32) = (1 : Int32) by decide), if_neg (show ¬ (5 : Int32) = (2 : Int32) by decide), if_neg (show ¬ (5 : Int32) = (3 : Int32) by decide), if_neg (show ¬ (5 : Int32) = (4 : Int32) by decide), if_pos rfl]; exact congrArg nI (cnt_c _ (fun k hk => by rw [hC.2.2.2.2.2.2.2.1 k hk])), ht⟩) (fun _ h9 => by cases h9) dX4_version_121
    by_cases q15_6 : what = 6
    · skip
      subst q15_6
      refine lv_tableIn (tgt := 122) hx hb dX4_version_15 (by decide) (by decide) rfl (by decide) ?_
      refine lv_aload_n hx hb dX4_version_122 rfl (lv_at hl 0 rfl) ?_
      refine va_get (D := gD G) (ci := 4) (v := .ref (h 10)) (C := RX4) (T := TX4) (N := 9) hx hb hts hiX4 hown hK hP 0 (xp_0 _ _ _ _ _ _ _ _ _ _ _ _) rfl 0 (by decide) k10 (fun _ h9 => h9) rfl dX4_version_123 ?_
      refine lv_iload_n hx hb dX4_version_126 rfl (lv_at hl 1 rfl) ?_
      refine cRi (w := wv G (fun k => h (10 + k)) wn) (As := [.int (nI a1)]) (rest := []) ⟨hx, hb, hml, hown, hts⟩ (mt_X3_countTakenF l G (fun k => h (10 + k)) wn (sg.1 4) (nI a1) (hC.2.1) (by first | assumption | omega)) (cwV 1 hts gX4_version_X3_countTaken rfl rfl rfl ⟨rfl, hd_X3_countTaken⟩ ⟨Nat.le_of_ble_eq_true rfl, Nat.le_of_ble_eq_true rfl⟩) hK hN (hP.sub [3, 4, 5, 6, 7, 8, 9, 10] (xf_now _ _ _ _ _ _ _ _ _ _ _ _)) 0 3 rfl rfl rfl hl.1 rfl (Nat.le_of_ble_eq_true rfl) ⟨Nat.zero_le _, Nat.zero_le _⟩ dX4_version_127 (fun r127 hw127 => ?_)
      obtain rfl := hw127
      have hc127 := cnt_le (fun i => decide (¬ wn.2 8 i &&& onl (nI a1) = 0)) (sg.1 4)
      exact W.iret (v := nI (cnt (fun i => decide (¬ wn.2 8 i &&& onl (nI a1) = 0)) (sg.1 4))) hx hb hr (fun t ht hW => ⟨nI (cnt (fun i => decide (¬ wn.2 8 i &&& onl (nI a1) = 0)) (sg.1 4)), rfl, by rw [verA, if_pos (inR_t ha1 (by omega)), vN_n (by omega), verB, if_neg (show ¬ (6 : Int32) = (0 : Int32) by decide), if_neg (show ¬ (6 : Int32) = (1 : Int32) by decide), if_neg (show ¬ (6 : Int32) = (2 : Int32) by decide), if_neg (show ¬ (6 : Int32) = (3 : Int32) by decide), if_neg (show ¬ (6 : Int32) = (4 : Int32) by decide), if_neg (show ¬ (6 : Int32) = (5 : Int32) by decide), if_pos rfl]; exact congrArg nI (cnt_c _ (fun k hk => by rw [onl_n (show a1 < 24 by omega), hC.2.2.2.2.2.2.2.2 k hk]; exact holB _ (by omega))), ht⟩) (fun _ h9 => by cases h9) dX4_version_130
    have t15_0 : ¬ what.toInt = 0 := lv_neT q15_0 rfl
    have t15_1 : ¬ what.toInt = 1 := lv_neT q15_1 rfl
    have t15_2 : ¬ what.toInt = 2 := lv_neT q15_2 rfl
    have t15_3 : ¬ what.toInt = 3 := lv_neT q15_3 rfl
    have t15_4 : ¬ what.toInt = 4 := lv_neT q15_4 rfl
    have t15_5 : ¬ what.toInt = 5 := lv_neT q15_5 rfl
    have t15_6 : ¬ what.toInt = 6 := lv_neT q15_6 rfl
    refine lv_tableOut (tgt := 131) hx hb dX4_version_15 (by omega) (by decide) ?_
    refine lv_ldc (v := (-1000000002 : Int32)) hx hb hown (hts (.constant RX4 56 (-1000000002)) (List.mem_of_getElem? (i := 3) rfl)) dX4_version_131 ?_
    exact W.iret (v := (-1000000002 : Int32)) hx hb hr (fun t ht hW => ⟨(-1000000002 : Int32), rfl, by rw [verA, if_pos (inR_t ha1 (by omega)), vN_n (by omega), verB, if_neg q15_0, if_neg q15_1, if_neg q15_2, if_neg q15_3, if_neg q15_4, if_neg q15_5, if_neg q15_6], ht⟩) (fun _ h9 => by cases h9) dX4_version_133
  · skip
    refine lv_if_ne (tgt := 14) hx hb dX4_version_8 (by decide) (fun c9 => absurd (by decide) c9) (fun _ => ?_)
    refine lv_ldc (v := (-1000000001 : Int32)) hx hb hown (hts (.constant RX4 110 (-1000000001)) (List.mem_of_getElem? (i := 2) rfl)) dX4_version_11 ?_
    exact W.iret (v := (-1000000001 : Int32)) hx hb hr (fun t ht hW => ⟨(-1000000001 : Int32), rfl, by rw [verA, if_neg (inR_f (by omega) hna1)], ht⟩) (fun _ h9 => by cases h9) dX4_version_13
set_option maxHeartbeats 1000000 in
set_option maxRecDepth 100000 in
theorem mt_X4_lineS (l : Launch) (G : gG) (h : Nat → Nat) (x : oS) (wn : oS) (wa : oS) (w0 : oS) (w1 : oS) (rd : oS) (wr : oS) (z : oS) (jj : Nat → Nat → Int64) (lt : Int64) (sg : pS) (zz : Nat → Nat → Int64) (a : Int32) (what : Int32) (hIS : IS sg) (hRX : RepX x wn wa w0 w1 rd z jj sg zz) : Met l yX4_line wsX4_line ({ frames := 2, cells := 0, slots := 0, locals := 45 }) (preR G (xw G h x wn wa w0 w1 rd wr z jj lt) [.ref (h 0), .int a, .int what]) (vp_Si (fun r : Int32 => r = linA sg a what)) 0 0 (fun _ => False) := by
  refine Met.ofW (cc := cX4_line) (maxL := 3) (ret := (some .int)) (by decide) rfl ?_
  intro p e s m args below meth c s₁ B hml hv
  obtain ⟨ha, hP, hK, hN⟩ := hv
  subst ha
  have hx := B.exec
  have hb := B.bytes
  have hr := B.returns
  have hts := atoms_spec (ws := wsX4_line) B.pre
  have hown : s.vm.findClass RX4 = some m.cls := findClass_of_methodNamed B.named
  have hlocks := B.notSynchronized
  have hiX4 : ∀ w ∈ wsX40, w ∈ wsX4_line := fun w h9 => List.mem_cons_of_mem _ (List.mem_append_left _ (List.mem_append_right _ (h9)))
  have k10 := hts (.fieldLink RX4 10 "WovenHistory" "now" "LWovenHistory$Weave;") (List.mem_of_getElem? (i := 1) rfl)
  have hiX3 : ∀ w ∈ wsX30, w ∈ wsX4_line := fun w h9 => List.mem_cons_of_mem _ (List.mem_append_right _ (h9))
  have k136 : (Cond.fieldLinkNest "WovenHistory" 136 "WovenHistory$Weave" "sign" "[I" "WovenHistory").before _ s = true := va_Nw.use (A := ([.ref (h 0), .int a, .int what] : List Value).toArray) rfl (hN.1 ("WovenHistory", 136, "WovenHistory$Weave", "sign", "[I") (List.mem_of_getElem? (i := 4) rfl))
  have k139 : (Cond.fieldLinkNest "WovenHistory" 139 "WovenHistory$Weave" "brought" "[I" "WovenHistory").before _ s = true := va_Nw.use (A := ([.ref (h 0), .int a, .int what] : List Value).toArray) rfl (hN.1 ("WovenHistory", 139, "WovenHistory$Weave", "brought", "[I") (List.mem_of_getElem? (i := 5) rfl))
  have k142 : (Cond.fieldLinkNest "WovenHistory" 142 "WovenHistory$Weave" "took" "[I" "WovenHistory").before _ s = true := va_Nw.use (A := ([.ref (h 0), .int a, .int what] : List Value).toArray) rfl (hN.1 ("WovenHistory", 142, "WovenHistory$Weave", "took", "[I") (List.mem_of_getElem? (i := 6) rfl))
  have hl := lv_entry ([.ref (h 0), .int a, .int what]) (n := 3) (Nat.le_of_ble_eq_true rfl)
  rw [lg_entry_eq]
  generalize (lg_sl ([.ref (h 0), .int a, .int what]) ++ List.replicate (3 - (lg_sl ([.ref (h 0), .int a, .int what])).length) Slot.unset).toArray = ls at hl ⊢
  have hl : lv_has ls 3 [(0, .ref (h 0)), (1, .int a), (2, .int what)] := hl
  have hC := hRX.1
  have hic := hIS.ic
  have hv24 := hIS.1
  have hl120 := hIS.2.1
  have ho1 := hIS.2.2.1
  refine lv_aload_n hx hb dX4_line_0 rfl (lv_at hl 0 rfl) ?_
  refine va_get (D := gD G) (ci := 4) (v := .ref (h 10)) (C := RX4) (T := TX4) (N := 9) hx hb hts hiX4 hown hK hP 0 (xp_0 _ _ _ _ _ _ _ _ _ _ _ _) rfl 0 (by decide) k10 (fun _ h9 => h9) rfl dX4_line_1 ?_
  refine lv_iload_n hx hb dX4_line_4 rfl (lv_at hl 1 rfl) ?_
  refine cRi (w := wv G (fun k => h (10 + k)) wn) (As := [.int a]) (rest := []) ⟨hx, hb, hml, hown, hts⟩ (mt_X3_hasLine l G (fun k => h (10 + k)) wn (sg.1 4) a (hC.2.1) (by first | assumption | omega)) (cwV 1 hts gX4_line_X3_hasLine rfl rfl rfl ⟨rfl, hd_X3_hasLine⟩ ⟨Nat.le_of_ble_eq_true rfl, Nat.le_of_ble_eq_true rfl⟩) hK hN (hP.sub [3, 4, 5, 6, 7, 8, 9, 10] (xf_now _ _ _ _ _ _ _ _ _ _ _ _)) 0 3 rfl rfl rfl hl.1 rfl (Nat.le_of_ble_eq_true rfl) ⟨Nat.zero_le _, Nat.zero_le _⟩ dX4_line_5 (fun r5 hw5 => ?_)
  rcases hw5 with ⟨rfl, a1, ha1, rfl⟩ | ⟨rfl, hna1⟩
  · skip
    refine lv_if_ne (tgt := 14) hx hb dX4_line_8 (by decide) (fun _ => ?_) (fun c9 => absurd c9 (by decide))
    refine lv_iload_n hx hb dX4_line_14 rfl (lv_at hl 2 rfl) ?_
    by_cases q15_0 : what = 0
    · skip
      subst q15_0
      refine lv_tableIn (tgt := 44) hx hb dX4_line_15 (by decide) (by decide) rfl (by decide) ?_
      refine lv_aload_n hx hb dX4_line_44 rfl (lv_at hl 0 rfl) ?_
      refine va_get (D := gD G) (ci := 4) (v := .ref (h 10)) (C := RX4) (T := TX4) (N := 9) hx hb hts hiX4 hown hK hP 0 (xp_0 _ _ _ _ _ _ _ _ _ _ _ _) rfl 0 (by decide) k10 (fun _ h9 => h9) rfl dX4_line_45 ?_
      refine va_getN (D := gD G) (ci := 3) (v := .ref (h 16)) (C := RX3) (T := TX3) (N := 9) hx hb hts hiX3 hown hK hP 3 (xp_3 _ _ _ _ _ _ _ _ _ _ _ _) rfl 6 (by decide) k136 (fun _ h9 => h9) rfl dX4_line_48 ?_
      refine lv_iload_n hx hb dX4_line_51 rfl (lv_at hl 1 rfl) ?_
      refine ialdN (f := wn.2 6) (n := 120) (k := a1) hx hb hK hP 8 (xp_8 _ _ _ _ _ _ _ _ _ _ _ _) rfl (by omega) dX4_line_52 ?_
      exact W.iret (v := (wn.2 6) a1) hx hb hr (fun t ht hW => ⟨(wn.2 6) a1, rfl, by rw [linA, if_pos (inR_t ha1 (by omega)), vN_n (by omega), linB, if_pos rfl]; exact hC.2.2.2.2.2.2.1 a1 ha1, ht⟩) (fun _ h9 => by cases h9) dX4_line_53
    by_cases q15_1 : what = 1
    · skip
      subst q15_1
      refine lv_tableIn (tgt := 54) hx hb dX4_line_15 (by decide) (by decide) rfl (by decide) ?_
      refine lv_aload_n hx hb dX4_line_54 rfl (lv_at hl 0 rfl) ?_
      refine va_get (D := gD G) (ci := 4) (v := .ref (h 10)) (C := RX4) (T := TX4) (N := 9) hx hb hts hiX4 hown hK hP 0 (xp_0 _ _ _ _ _ _ _ _ _ _ _ _) rfl 0 (by decide) k10 (fun _ h9 => h9) rfl dX4_line_55 ?_
      refine va_getN (D := gD G) (ci := 3) (v := .ref (h 17)) (C := RX3) (T := TX3) (N := 9) hx hb hts hiX3 hown hK hP 3 (xp_3 _ _ _ _ _ _ _ _ _ _ _ _) rfl 7 (by decide) k139 (fun _ h9 => h9) rfl dX4_line_58 ?_
      refine lv_iload_n hx hb dX4_line_61 rfl (lv_at hl 1 rfl) ?_
      refine ialdN (f := wn.2 7) (n := 120) (k := a1) hx hb hK hP 9 (xp_9 _ _ _ _ _ _ _ _ _ _ _ _) rfl (by omega) dX4_line_62 ?_
      exact W.iret (v := (wn.2 7) a1) hx hb hr (fun t ht hW => ⟨(wn.2 7) a1, rfl, by rw [linA, if_pos (inR_t ha1 (by omega)), vN_n (by omega), linB, if_neg (show ¬ (1 : Int32) = (0 : Int32) by decide), if_pos rfl]; exact hC.2.2.2.2.2.2.2.1 a1 ha1, ht⟩) (fun _ h9 => by cases h9) dX4_line_63
    by_cases q15_2 : what = 2
    · skip
      subst q15_2
      refine lv_tableIn (tgt := 64) hx hb dX4_line_15 (by decide) (by decide) rfl (by decide) ?_
      refine lv_aload_n hx hb dX4_line_64 rfl (lv_at hl 0 rfl) ?_
      refine va_get (D := gD G) (ci := 4) (v := .ref (h 10)) (C := RX4) (T := TX4) (N := 9) hx hb hts hiX4 hown hK hP 0 (xp_0 _ _ _ _ _ _ _ _ _ _ _ _) rfl 0 (by decide) k10 (fun _ h9 => h9) rfl dX4_line_65 ?_
      refine va_getN (D := gD G) (ci := 3) (v := .ref (h 18)) (C := RX3) (T := TX3) (N := 9) hx hb hts hiX3 hown hK hP 3 (xp_3 _ _ _ _ _ _ _ _ _ _ _ _) rfl 8 (by decide) k142 (fun _ h9 => h9) rfl dX4_line_68 ?_
      refine lv_iload_n hx hb dX4_line_71 rfl (lv_at hl 1 rfl) ?_
      refine ialdN (f := wn.2 8) (n := 120) (k := a1) hx hb hK hP 10 (xp_10 _ _ _ _ _ _ _ _ _ _ _ _) rfl (by omega) dX4_line_72 ?_
      exact W.iret (v := (wn.2 8) a1) hx hb hr (fun t ht hW => ⟨(wn.2 8) a1, rfl, by rw [linA, if_pos (inR_t ha1 (by omega)), vN_n (by omega), linB, if_neg (show ¬ (2 : Int32) = (0 : Int32) by decide), if_neg (show ¬ (2 : Int32) = (1 : Int32) by decide), if_pos rfl]; exact hC.2.2.2.2.2.2.2.2 a1 ha1, ht⟩) (fun _ h9 => by cases h9) dX4_line_73
    by_cases q15_3 : what = 3
    · skip
      subst q15_3
      refine lv_tableIn (tgt := 74) hx hb dX4_line_15 (by decide) (by decide) rfl (by decide) ?_
      refine lv_aload_n hx hb dX4_line_74 rfl (lv_at hl 0 rfl) ?_
      refine va_get (D := gD G) (ci := 4) (v := .ref (h 10)) (C := RX4) (T := TX4) (N := 9) hx hb hts hiX4 hown hK hP 0 (xp_0 _ _ _ _ _ _ _ _ _ _ _ _) rfl 0 (by decide) k10 (fun _ h9 => h9) rfl dX4_line_75 ?_
      refine lv_iload_n hx hb dX4_line_78 rfl (lv_at hl 1 rfl) ?_
      refine cRi (w := wv G (fun k => h (10 + k)) wn) (As := [.int (nI a1)]) (rest := []) ⟨hx, hb, hml, hown, hts⟩ (mt_X3_lifeOfF l G (fun k => h (10 + k)) wn (sg.1 0) a1 (hC.1) (by first | assumption | omega) (by first | assumption | omega)) (cwV 1 hts gX4_line_X3_lifeOf rfl rfl rfl ⟨rfl, hd_X3_lifeOf⟩ ⟨Nat.le_of_ble_eq_true rfl, Nat.le_of_ble_eq_true rfl⟩) hK hN (hP.sub [3, 4, 5, 6, 7, 8, 9, 10] (xf_now _ _ _ _ _ _ _ _ _ _ _ _)) 0 3 rfl rfl rfl hl.1 rfl (Nat.le_of_ble_eq_true rfl) ⟨Nat.zero_le _, Nat.zero_le _⟩ dX4_line_79 (fun r79 hw79 => ?_)
      obtain rfl := hw79
      exact W.iret (v := lifF (fun v => sdb (wn.2 7) (wn.2 8) (wn.2 4 v) a1) (sg.1 0)) hx hb hr (fun t ht hW => ⟨lifF (fun v => sdb (wn.2 7) (wn.2 8) (wn.2 4 v) a1) (sg.1 0), rfl, by rw [linA, if_pos (inR_t ha1 (by omega)), vN_n (by omega), linB, if_neg (show ¬ (3 : Int32) = (0 : Int32) by decide), if_neg (show ¬ (3 : Int32) = (1 : Int32) by decide), if_neg (show ¬ (3 : Int32) = (2 : Int32) by decide), if_pos rfl]; exact lifF_c _ (fun v hv => by rw [hC.2.2.2.2.2.1 v (by omega)]; exact hC.sd _ a1 ha1), ht⟩) (fun _ h9 => by cases h9) dX4_line_82
    have t15_0 : ¬ what.toInt = 0 := lv_neT q15_0 rfl
    have t15_1 : ¬ what.toInt = 1 := lv_neT q15_1 rfl
    have t15_2 : ¬ what.toInt = 2 := lv_neT q15_2 rfl
    have t15_3 : ¬ what.toInt = 3 := lv_neT q15_3 rfl
    refine lv_tableOut (tgt := 83) hx hb dX4_line_15 (by omega) (by decide) ?_
    refine lv_ldc (v := (-1000000002 : Int32)) hx hb hown (hts (.constant RX4 56 (-1000000002)) (List.mem_of_getElem? (i := 3) rfl)) dX4_line_83 ?_
    exact W.iret (v := (-1000000002 : Int32)) hx hb hr (fun t ht hW => ⟨(-1000000002 : Int32), rfl, by rw [linA, if_pos (inR_t ha1 (by omega)), vN_n (by omega), linB, if_neg q15_0, if_neg q15_1, if_neg q15_2, if_neg q15_3], ht⟩) (fun _ h9 => by cases h9) dX4_line_85
  · skip
    refine lv_if_ne (tgt := 14) hx hb dX4_line_8 (by decide) (fun c9 => absurd (by decide) c9) (fun _ => ?_)
    refine lv_ldc (v := (-1000000001 : Int32)) hx hb hown (hts (.constant RX4 110 (-1000000001)) (List.mem_of_getElem? (i := 2) rfl)) dX4_line_11 ?_
    exact W.iret (v := (-1000000001 : Int32)) hx hb hr (fun t ht hW => ⟨(-1000000001 : Int32), rfl, by rw [linA, if_neg (inR_f (by omega) hna1)], ht⟩) (fun _ h9 => by cases h9) dX4_line_13
set_option maxHeartbeats 1000000 in
set_option maxRecDepth 100000 in
theorem mt_X4_shareS (l : Launch) (G : gG) (h : Nat → Nat) (x : oS) (wn : oS) (wa : oS) (w0 : oS) (w1 : oS) (rd : oS) (wr : oS) (z : oS) (jj : Nat → Nat → Int64) (lt : Int64) (sg : pS) (zz : Nat → Nat → Int64) (a : Int32) (b : Int32) (hIS : IS sg) (hRX : RepX x wn wa w0 w1 rd z jj sg zz) : Met l yX4_share wsX4_share ({ frames := 2, cells := 0, slots := 0, locals := 46 }) (preR G (xw G h x wn wa w0 w1 rd wr z jj lt) [.ref (h 0), .int a, .int b]) (vp_Si (fun r : Int32 => r = shaA sg a b)) 0 0 (fun _ => False) := by
  refine Met.ofW (cc := cX4_share) (maxL := 3) (ret := (some .int)) (by decide) rfl ?_
  intro p e s m args below meth c s₁ B hml hv
  obtain ⟨ha, hP, hK, hN⟩ := hv
  subst ha
  have hx := B.exec
  have hb := B.bytes
  have hr := B.returns
  have hts := atoms_spec (ws := wsX4_share) B.pre
  have hown : s.vm.findClass RX4 = some m.cls := findClass_of_methodNamed B.named
  have hlocks := B.notSynchronized
  have hiX4 : ∀ w ∈ wsX40, w ∈ wsX4_share := fun w h9 => List.mem_cons_of_mem _ (List.mem_append_left _ (List.mem_append_right _ (h9)))
  have k10 := hts (.fieldLink RX4 10 "WovenHistory" "now" "LWovenHistory$Weave;") (List.mem_of_getElem? (i := 1) rfl)
  have hiX3 : ∀ w ∈ wsX30, w ∈ wsX4_share := fun w h9 => List.mem_cons_of_mem _ (List.mem_append_right _ (h9))
  have k115 : (Cond.fieldLinkNest "WovenHistory" 115 "WovenHistory$Weave" "changes" "[I" "WovenHistory").before _ s = true := va_Nw.use (A := ([.ref (h 0), .int a, .int b] : List Value).toArray) rfl (hN.1 ("WovenHistory", 115, "WovenHistory$Weave", "changes", "[I") (List.mem_of_getElem? (i := 1) rfl))
  have hl := lv_entry ([.ref (h 0), .int a, .int b]) (n := 3) (Nat.le_of_ble_eq_true rfl)
  rw [lg_entry_eq]
  generalize (lg_sl ([.ref (h 0), .int a, .int b]) ++ List.replicate (3 - (lg_sl ([.ref (h 0), .int a, .int b])).length) Slot.unset).toArray = ls at hl ⊢
  have hl : lv_has ls 3 [(0, .ref (h 0)), (1, .int a), (2, .int b)] := hl
  have hC := hRX.1
  have hic := hIS.ic
  have hv24 := hIS.1
  have hl120 := hIS.2.1
  have ho1 := hIS.2.2.1
  refine lv_aload_n hx hb dX4_share_0 rfl (lv_at hl 0 rfl) ?_
  refine va_get (D := gD G) (ci := 4) (v := .ref (h 10)) (C := RX4) (T := TX4) (N := 9) hx hb hts hiX4 hown hK hP 0 (xp_0 _ _ _ _ _ _ _ _ _ _ _ _) rfl 0 (by decide) k10 (fun _ h9 => h9) rfl dX4_share_1 ?_
  refine lv_iload_n hx hb dX4_share_4 rfl (lv_at hl 1 rfl) ?_
  refine cRi (w := wv G (fun k => h (10 + k)) wn) (As := [.int a]) (rest := []) ⟨hx, hb, hml, hown, hts⟩ (mt_X3_hasVersion l G (fun k => h (10 + k)) wn (sg.1 0) a (hC.1) (by first | assumption | omega)) (cwV 1 hts gX4_share_X3_hasVersion rfl rfl rfl ⟨rfl, hd_X3_hasVersion⟩ ⟨Nat.le_of_ble_eq_true rfl, Nat.le_of_ble_eq_true rfl⟩) hK hN (hP.sub [3, 4, 5, 6, 7, 8, 9, 10] (xf_now _ _ _ _ _ _ _ _ _ _ _ _)) 0 3 rfl rfl rfl hl.1 rfl (Nat.le_of_ble_eq_true rfl) ⟨Nat.zero_le _, Nat.zero_le _⟩ dX4_share_5 (fun r5 hw5 => ?_)
  rcases hw5 with ⟨rfl, a1, ha1, rfl⟩ | ⟨rfl, hna1⟩
  · skip
    refine lv_if_eq (tgt := 22) hx hb dX4_share_8 (by decide) (fun c9 => absurd c9 (by decide)) (fun _ => ?_)
    refine lv_aload_n hx hb dX4_share_11 rfl (lv_at hl 0 rfl) ?_
    refine va_get (D := gD G) (ci := 4) (v := .ref (h 10)) (C := RX4) (T := TX4) (N := 9) hx hb hts hiX4 hown hK hP 0 (xp_0 _ _ _ _ _ _ _ _ _ _ _ _) rfl 0 (by decide) k10 (fun _ h9 => h9) rfl dX4_share_12 ?_
    refine lv_iload_n hx hb dX4_share_15 rfl (lv_at hl 2 rfl) ?_
    refine cRi (w := wv G (fun k => h (10 + k)) wn) (As := [.int b]) (rest := []) ⟨hx, hb, hml, hown, hts⟩ (mt_X3_hasVersion l G (fun k => h (10 + k)) wn (sg.1 0) b (hC.1) (by first | assumption | omega)) (cwV 1 hts gX4_share_X3_hasVersion rfl rfl rfl ⟨rfl, hd_X3_hasVersion⟩ ⟨Nat.le_of_ble_eq_true rfl, Nat.le_of_ble_eq_true rfl⟩) hK hN (hP.sub [3, 4, 5, 6, 7, 8, 9, 10] (xf_now _ _ _ _ _ _ _ _ _ _ _ _)) 0 3 rfl rfl rfl hl.1 rfl (Nat.le_of_ble_eq_true rfl) ⟨Nat.zero_le _, Nat.zero_le _⟩ dX4_share_16 (fun r16 hw16 => ?_)
    rcases hw16 with ⟨rfl, b1, hb1, rfl⟩ | ⟨rfl, hnb1⟩
    · skip
      refine lv_if_ne (tgt := 25) hx hb dX4_share_19 (by decide) (fun _ => ?_) (fun c9 => absurd c9 (by decide))
      refine lv_aload_n hx hb dX4_share_25 rfl (lv_at hl 0 rfl) ?_
      refine va_get (D := gD G) (ci := 4) (v := .ref (h 10)) (C := RX4) (T := TX4) (N := 9) hx hb hts hiX4 hown hK hP 0 (xp_0 _ _ _ _ _ _ _ _ _ _ _ _) rfl 0 (by decide) k10 (fun _ h9 => h9) rfl dX4_share_26 ?_
      refine lv_aload_n hx hb dX4_share_29 rfl (lv_at hl 0 rfl) ?_
      refine va_get (D := gD G) (ci := 4) (v := .ref (h 10)) (C := RX4) (T := TX4) (N := 9) hx hb hts hiX4 hown hK hP 0 (xp_0 _ _ _ _ _ _ _ _ _ _ _ _) rfl 0 (by decide) k10 (fun _ h9 => h9) rfl dX4_share_30 ?_
      refine va_getN (D := gD G) (ci := 3) (v := .ref (h 14)) (C := RX3) (T := TX3) (N := 9) hx hb hts hiX3 hown hK hP 3 (xp_3 _ _ _ _ _ _ _ _ _ _ _ _) rfl 4 (by decide) k115 (fun _ h9 => h9) rfl dX4_share_33 ?_
      refine lv_iload_n hx hb dX4_share_36 rfl (lv_at hl 1 rfl) ?_
      refine ialdN (f := wn.2 4) (n := 24) (k := a1) hx hb hK hP 7 (xp_7 _ _ _ _ _ _ _ _ _ _ _ _) rfl (by omega) dX4_share_37 ?_
      refine lv_iload_n hx hb dX4_share_38 rfl (lv_at hl 2 rfl) ?_
      refine cRi (w := wv G (fun k => h (10 + k)) wn) (As := [.int ((wn.2 4) a1), .int (nI b1)]) (rest := []) ⟨hx, hb, hml, hown, hts⟩ (mt_X3_countShareF l G (fun k => h (10 + k)) wn (sg.1 4) ((wn.2 4) a1) (nI b1) (hC.2.1) (by first | assumption | omega)) (cwV 2 hts gX4_share_X3_countShare rfl rfl rfl ⟨rfl, hd_X3_countShare⟩ ⟨Nat.le_of_ble_eq_true rfl, Nat.le_of_ble_eq_true rfl⟩) hK hN (hP.sub [3, 4, 5, 6, 7, 8, 9, 10] (xf_now _ _ _ _ _ _ _ _ _ _ _ _)) 0 3 rfl rfl rfl hl.1 rfl (Nat.le_of_ble_eq_true rfl) ⟨Nat.zero_le _, Nat.zero_le _⟩ dX4_share_39 (fun r39 hw39 => ?_)
      obtain rfl := hw39
      have hc39 := cnt_le (fun i => decide (wn.2 7 i = (nI b1)) && sdb (wn.2 7) (wn.2 8) ((wn.2 4) a1) i) (sg.1 4)
      exact W.iret (v := nI (cnt (fun i => decide (wn.2 7 i = (nI b1)) && sdb (wn.2 7) (wn.2 8) ((wn.2 4) a1) i) (sg.1 4))) hx hb hr (fun t ht hW => ⟨nI (cnt (fun i => decide (wn.2 7 i = (nI b1)) && sdb (wn.2 7) (wn.2 8) ((wn.2 4) a1) i) (sg.1 4)), rfl, by rw [shaA, if_pos ⟨inR_t ha1 (by omega), inR_t hb1 (by omega)⟩, vN_n (by omega)]; exact congrArg nI (cnt_c _ (fun k hk => by rw [hC.2.2.2.2.2.2.2.1 k hk, (hC.2.2.2.2.2.1 a1 (by omega)), hC.sd _ k hk])), ht⟩) (fun _ h9 => by cases h9) dX4_share_42
    · skip
      refine lv_if_ne (tgt := 25) hx hb dX4_share_19 (by decide) (fun c9 => absurd (by decide) c9) (fun _ => ?_)
      refine lv_ldc (v := (-1000000001 : Int32)) hx hb hown (hts (.constant RX4 110 (-1000000001)) (List.mem_of_getElem? (i := 2) rfl)) dX4_share_22 ?_
      exact W.iret (v := (-1000000001 : Int32)) hx hb hr (fun t ht hW => ⟨(-1000000001 : Int32), rfl, by rw [shaA, if_neg (fun q => by first | exact inR_f (by omega) hna1 q.1 | exact inR_f (by omega) hnb1 q.2)], ht⟩) (fun _ h9 => by cases h9) dX4_share_24
  · skip
    refine lv_if_eq (tgt := 22) hx hb dX4_share_8 (by decide) (fun _ => ?_) (fun c9 => absurd (by decide) c9)
    refine lv_ldc (v := (-1000000001 : Int32)) hx hb hown (hts (.constant RX4 110 (-1000000001)) (List.mem_of_getElem? (i := 2) rfl)) dX4_share_22 ?_
    exact W.iret (v := (-1000000001 : Int32)) hx hb hr (fun t ht hW => ⟨(-1000000001 : Int32), rfl, by rw [shaA, if_neg (fun q => by first | exact inR_f (by omega) hna1 q.1 | exact inR_f (by omega) hnb1 q.2)], ht⟩) (fun _ h9 => by cases h9) dX4_share_24
set_option maxHeartbeats 1000000 in
set_option maxRecDepth 100000 in
theorem mt_X4_areTwoVersionsS (l : Launch) (G : gG) (h : Nat → Nat) (x : oS) (wn : oS) (wa : oS) (w0 : oS) (w1 : oS) (rd : oS) (wr : oS) (z : oS) (jj : Nat → Nat → Int64) (lt : Int64) (sg : pS) (zz : Nat → Nat → Int64) (a : Int32) (b : Int32) (hIS : IS sg) (hRX : RepX x wn wa w0 w1 rd z jj sg zz) : Met l yX4_areTwoVersions wsX4_areTwoVersions ({ frames := 1, cells := 0, slots := 0, locals := 21 }) (preR G (xw G h x wn wa w0 w1 rd wr z jj lt) [.ref (h 0), .int a, .int b]) (vp_Si (fun r : Int32 => (r = 1 ∧ ∃ j k, j < sg.1 0 ∧ k < sg.1 0 ∧ a = nI j ∧ b = nI k ∧ ¬ nI j = nI k) ∨ (r = 0 ∧ ¬ two sg a b = true))) 0 0 (fun _ => False) := by
  refine Met.ofW (cc := cX4_areTwoVersions) (maxL := 3) (ret := (some .boolean)) (by decide) rfl ?_
  intro p e s m args below meth c s₁ B hml hv
  obtain ⟨ha, hP, hK, hN⟩ := hv
  subst ha
  have hx := B.exec
  have hb := B.bytes
  have hr := B.returns
  have hts := atoms_spec (ws := wsX4_areTwoVersions) B.pre
  have hown : s.vm.findClass RX4 = some m.cls := findClass_of_methodNamed B.named
  have hlocks := B.notSynchronized
  have hiX4 : ∀ w ∈ wsX40, w ∈ wsX4_areTwoVersions := fun w h9 => List.mem_cons_of_mem _ (List.mem_append_left _ (List.mem_append_right _ (h9)))
  have k10 := hts (.fieldLink RX4 10 "WovenHistory" "now" "LWovenHistory$Weave;") (List.mem_of_getElem? (i := 1) rfl)
  have hl := lv_entry ([.ref (h 0), .int a, .int b]) (n := 3) (Nat.le_of_ble_eq_true rfl)
  rw [lg_entry_eq]
  generalize (lg_sl ([.ref (h 0), .int a, .int b]) ++ List.replicate (3 - (lg_sl ([.ref (h 0), .int a, .int b])).length) Slot.unset).toArray = ls at hl ⊢
  have hl : lv_has ls 3 [(0, .ref (h 0)), (1, .int a), (2, .int b)] := hl
  have hC := hRX.1
  have hic := hIS.ic
  have hv24 := hIS.1
  have hl120 := hIS.2.1
  have ho1 := hIS.2.2.1
  refine lv_iload_n hx hb dX4_areTwoVersions_0 rfl (lv_at hl 1 rfl) ?_
  refine lv_iload_n hx hb dX4_areTwoVersions_1 rfl (lv_at hl 2 rfl) ?_
  refine lv_icmp_eq (tgt := 31) hx hb dX4_areTwoVersions_2 (by decide) (fun c2 => ?_) (fun c2 => ?_)
  · skip
    refine lv_iconst (v := nI 0) hx hb dX4_areTwoVersions_31 (by decide) ?_
    exact W.zret (v := nI 0) hx hb hr (by decide) (fun t ht hW => ⟨nI 0, rfl, by first | exact Or.inl ⟨rfl, j10, j21, hj10, hj21, ej10, ej21, by rw [← ej10, ← ej21]; exact c2⟩ | exact Or.inr ⟨rfl, two_f3 c2⟩ | exact Or.inr ⟨rfl, two_f1 (inR_f (by omega) hn10)⟩ | exact Or.inr ⟨rfl, two_f2 (inR_f (by omega) hn21)⟩, ht⟩) (fun _ h9 => by cases h9) dX4_areTwoVersions_32
  · skip
    refine lv_aload_n hx hb dX4_areTwoVersions_5 rfl (lv_at hl 0 rfl) ?_
    refine va_get (D := gD G) (ci := 4) (v := .ref (h 10)) (C := RX4) (T := TX4) (N := 9) hx hb hts hiX4 hown hK hP 0 (xp_0 _ _ _ _ _ _ _ _ _ _ _ _) rfl 0 (by decide) k10 (fun _ h9 => h9) rfl dX4_areTwoVersions_6 ?_
    refine lv_iload_n hx hb dX4_areTwoVersions_9 rfl (lv_at hl 1 rfl) ?_
    refine cRi (w := wv G (fun k => h (10 + k)) wn) (As := [.int a]) (rest := []) ⟨hx, hb, hml, hown, hts⟩ (mt_X3_hasVersion l G (fun k => h (10 + k)) wn (sg.1 0) a (hC.1) (by first | assumption | omega)) (cwV 1 hts gX4_areTwoVersions_X3_hasVersion rfl rfl rfl ⟨rfl, hd_X3_hasVersion⟩ ⟨Nat.le_of_ble_eq_true rfl, Nat.le_of_ble_eq_true rfl⟩) hK hN (hP.sub [3, 4, 5, 6, 7, 8, 9, 10] (xf_now _ _ _ _ _ _ _ _ _ _ _ _)) 0 3 rfl rfl rfl hl.1 rfl (Nat.le_of_ble_eq_true rfl) ⟨Nat.zero_le _, Nat.zero_le _⟩ dX4_areTwoVersions_10 (fun r10 hw10 => ?_)
    rcases hw10 with ⟨rfl, j10, hj10, ej10⟩ | ⟨rfl, hn10⟩
    · skip
      refine lv_if_eq (tgt := 31) hx hb dX4_areTwoVersions_13 (by decide) (fun c9 => absurd c9 (by decide)) (fun _ => ?_)
      refine lv_aload_n hx hb dX4_areTwoVersions_16 rfl (lv_at hl 0 rfl) ?_
      refine va_get (D := gD G) (ci := 4) (v := .ref (h 10)) (C := RX4) (T := TX4) (N := 9) hx hb hts hiX4 hown hK hP 0 (xp_0 _ _ _ _ _ _ _ _ _ _ _ _) rfl 0 (by decide) k10 (fun _ h9 => h9) rfl dX4_areTwoVersions_17 ?_
      refine lv_iload_n hx hb dX4_areTwoVersions_20 rfl (lv_at hl 2 rfl) ?_
      refine cRi (w := wv G (fun k => h (10 + k)) wn) (As := [.int b]) (rest := []) ⟨hx, hb, hml, hown, hts⟩ (mt_X3_hasVersion l G (fun k => h (10 + k)) wn (sg.1 0) b (hC.1) (by first | assumption | omega)) (cwV 1 hts gX4_areTwoVersions_X3_hasVersion rfl rfl rfl ⟨rfl, hd_X3_hasVersion⟩ ⟨Nat.le_of_ble_eq_true rfl, Nat.le_of_ble_eq_true rfl⟩) hK hN (hP.sub [3, 4, 5, 6, 7, 8, 9, 10] (xf_now _ _ _ _ _ _ _ _ _ _ _ _)) 0 3 rfl rfl rfl hl.1 rfl (Nat.le_of_ble_eq_true rfl) ⟨Nat.zero_le _, Nat.zero_le _⟩ dX4_areTwoVersions_21 (fun r21 hw21 => ?_)
      rcases hw21 with ⟨rfl, j21, hj21, ej21⟩ | ⟨rfl, hn21⟩
      · skip
        refine lv_if_eq (tgt := 31) hx hb dX4_areTwoVersions_24 (by decide) (fun c9 => absurd c9 (by decide)) (fun _ => ?_)
        refine lv_iconst (v := nI 1) hx hb dX4_areTwoVersions_27 (by decide) ?_
        refine lv_goto (tgt := 32) hx hb dX4_areTwoVersions_28 (by decide) ?_
        exact W.zret (v := nI 1) hx hb hr (by decide) (fun t ht hW => ⟨nI 1, rfl, by first | exact Or.inl ⟨rfl, j10, j21, hj10, hj21, ej10, ej21, by rw [← ej10, ← ej21]; exact c2⟩ | exact Or.inr ⟨rfl, two_f3 c2⟩ | exact Or.inr ⟨rfl, two_f1 (inR_f (by omega) hn10)⟩ | exact Or.inr ⟨rfl, two_f2 (inR_f (by omega) hn21)⟩, ht⟩) (fun _ h9 => by cases h9) dX4_areTwoVersions_32
      · skip
        refine lv_if_eq (tgt := 31) hx hb dX4_areTwoVersions_24 (by decide) (fun _ => ?_) (fun c9 => absurd (by decide) c9)
        refine lv_iconst (v := nI 0) hx hb dX4_areTwoVersions_31 (by decide) ?_
        exact W.zret (v := nI 0) hx hb hr (by decide) (fun t ht hW => ⟨nI 0, rfl, by first | exact Or.inl ⟨rfl, j10, j21, hj10, hj21, ej10, ej21, by rw [← ej10, ← ej21]; exact c2⟩ | exact Or.inr ⟨rfl, two_f3 c2⟩ | exact Or.inr ⟨rfl, two_f1 (inR_f (by omega) hn10)⟩ | exact Or.inr ⟨rfl, two_f2 (inR_f (by omega) hn21)⟩, ht⟩) (fun _ h9 => by cases h9) dX4_areTwoVersions_32
    · skip
      refine lv_if_eq (tgt := 31) hx hb dX4_areTwoVersions_13 (by decide) (fun _ => ?_) (fun c9 => absurd (by decide) c9)
      refine lv_iconst (v := nI 0) hx hb dX4_areTwoVersions_31 (by decide) ?_
      exact W.zret (v := nI 0) hx hb hr (by decide) (fun t ht hW => ⟨nI 0, rfl, by first | exact Or.inl ⟨rfl, j10, j21, hj10, hj21, ej10, ej21, by rw [← ej10, ← ej21]; exact c2⟩ | exact Or.inr ⟨rfl, two_f3 c2⟩ | exact Or.inr ⟨rfl, two_f1 (inR_f (by omega) hn10)⟩ | exact Or.inr ⟨rfl, two_f2 (inR_f (by omega) hn21)⟩, ht⟩) (fun _ h9 => by cases h9) dX4_areTwoVersions_32
set_option maxHeartbeats 1000000 in
set_option maxRecDepth 100000 in
theorem mt_X4_alikeS (l : Launch) (G : gG) (h : Nat → Nat) (x : oS) (wn : oS) (wa : oS) (w0 : oS) (w1 : oS) (rd : oS) (wr : oS) (z : oS) (jj : Nat → Nat → Int64) (lt : Int64) (sg : pS) (zz : Nat → Nat → Int64) (a : Int32) (b : Int32) (what : Int32) (hIS : IS sg) (hRX : RepX x wn wa w0 w1 rd z jj sg zz) : Met l yX4_alike wsX4_alike ({ frames := 3, cells := 0, slots := 0, locals := 67 }) (preR G (xw G h x wn wa w0 w1 rd wr z jj lt) [.ref (h 0), .int a, .int b, .int what]) (vp_Si (fun r : Int32 => r = aliA sg a b what)) 0 0 (fun _ => False) := by
  refine Met.ofW (cc := cX4_alike) (maxL := 7) (ret := (some .int)) (by decide) rfl ?_
  intro p e s m args below meth c s₁ B hml hv
  obtain ⟨ha, hP, hK, hN⟩ := hv
  subst ha
  have hx := B.exec
  have hb := B.bytes
  have hr := B.returns
  have hts := atoms_spec (ws := wsX4_alike) B.pre
  have hown : s.vm.findClass RX4 = some m.cls := findClass_of_methodNamed B.named
  have hlocks := B.notSynchronized
  have hiX4 : ∀ w ∈ wsX40, w ∈ wsX4_alike := fun w h9 => List.mem_cons_of_mem _ (List.mem_append_left _ (List.mem_append_right _ (h9)))
  have k10 := hts (.fieldLink RX4 10 "WovenHistory" "now" "LWovenHistory$Weave;") (List.mem_of_getElem? (i := 2) rfl)
  have hiX3 : ∀ w ∈ wsX30, w ∈ wsX4_alike := fun w h9 => List.mem_cons_of_mem _ (List.mem_append_right _ (h9))
  have k115 : (Cond.fieldLinkNest "WovenHistory" 115 "WovenHistory$Weave" "changes" "[I" "WovenHistory").before _ s = true := va_Nw.use (A := ([.ref (h 0), .int a, .int b, .int what] : List Value).toArray) rfl (hN.1 ("WovenHistory", 115, "WovenHistory$Weave", "changes", "[I") (List.mem_of_getElem? (i := 1) rfl))
  have hl := lv_entry ([.ref (h 0), .int a, .int b, .int what]) (n := 7) (Nat.le_of_ble_eq_true rfl)
  rw [lg_entry_eq]
  generalize (lg_sl ([.ref (h 0), .int a, .int b, .int what]) ++ List.replicate (7 - (lg_sl ([.ref (h 0), .int a, .int b, .int what])).length) Slot.unset).toArray = ls at hl ⊢
  have hl : lv_has ls 7 [(0, .ref (h 0)), (1, .int a), (2, .int b), (3, .int what)] := hl
  have hC := hRX.1
  have hic := hIS.ic
  have hv24 := hIS.1
  have hl120 := hIS.2.1
  have ho1 := hIS.2.2.1
  refine lv_aload_n hx hb dX4_alike_0 rfl (lv_at hl 0 rfl) ?_
  refine lv_iload_n hx hb dX4_alike_1 rfl (lv_at hl 1 rfl) ?_
  refine lv_iload_n hx hb dX4_alike_2 rfl (lv_at hl 2 rfl) ?_
  refine cRi (w := xw G h x wn wa w0 w1 rd wr z jj lt) (As := [.int a, .int b]) (rest := []) ⟨hx, hb, hml, hown, hts⟩ (mt_X4_areTwoVersionsS l G h x wn wa w0 w1 rd wr z jj lt sg zz a b hIS hRX) (cwV 2 hts gX4_alike_X4_areTwoVersions rfl rfl rfl ⟨rfl, hd_X4_areTwoVersions⟩ ⟨Nat.le_of_ble_eq_true rfl, Nat.le_of_ble_eq_true rfl⟩) hK hN hP 0 4 rfl rfl rfl hl.1 rfl (Nat.le_of_ble_eq_true rfl) ⟨Nat.zero_le _, Nat.zero_le _⟩ dX4_alike_3 (fun r3 hw3 => ?_)
  rcases hw3 with ⟨rfl, a1, b1, ha1, hb1, rfl, rfl, hab⟩ | ⟨rfl, hno⟩
  · skip
    refine lv_if_ne (tgt := 12) hx hb dX4_alike_6 (by decide) (fun _ => ?_) (fun c9 => absurd c9 (by decide))
    refine lv_aload_n hx hb dX4_alike_12 rfl (lv_at hl 0 rfl) ?_
    refine va_get (D := gD G) (ci := 4) (v := .ref (h 10)) (C := RX4) (T := TX4) (N := 9) hx hb hts hiX4 hown hK hP 0 (xp_0 _ _ _ _ _ _ _ _ _ _ _ _) rfl 0 (by decide) k10 (fun _ h9 => h9) rfl dX4_alike_13 ?_
    refine va_getN (D := gD G) (ci := 3) (v := .ref (h 14)) (C := RX3) (T := TX3) (N := 9) hx hb hts hiX3 hown hK hP 3 (xp_3 _ _ _ _ _ _ _ _ _ _ _ _) rfl 4 (by decide) k115 (fun _ h9 => h9) rfl dX4_alike_16 ?_
    refine lv_iload_n hx hb dX4_alike_19 rfl (lv_at hl 1 rfl) ?_
    refine ialdN (f := wn.2 4) (n := 24) (k := a1) hx hb hK hP 7 (xp_7 _ _ _ _ _ _ _ _ _ _ _ _) rfl (by omega) dX4_alike_20 ?_
    refine lv_istore (lv' := [(4, .int ((wn.2 4) a1)), (0, .ref (h 0)), (1, .int (nI a1)), (2, .int (nI b1)), (3, .int what)]) hx hb dX4_alike_21 hl (by decide) rfl (fun ls hl => ?_)
    refine lv_aload_n hx hb dX4_alike_23 rfl (lv_at hl 1 rfl) ?_
    refine va_get (D := gD G) (ci := 4) (v := .ref (h 10)) (C := RX4) (T := TX4) (N := 9) hx hb hts hiX4 hown hK hP 0 (xp_0 _ _ _ _ _ _ _ _ _ _ _ _) rfl 0 (by decide) k10 (fun _ h9 => h9) rfl dX4_alike_24 ?_
    refine va_getN (D := gD G) (ci := 3) (v := .ref (h 14)) (C := RX3) (T := TX3) (N := 9) hx hb hts hiX3 hown hK hP 3 (xp_3 _ _ _ _ _ _ _ _ _ _ _ _) rfl 4 (by decide) k115 (fun _ h9 => h9) rfl dX4_alike_27 ?_
    refine lv_iload_n hx hb dX4_alike_30 rfl (lv_at hl 3 rfl) ?_
    refine ialdN (f := wn.2 4) (n := 24) (k := b1) hx hb hK hP 7 (xp_7 _ _ _ _ _ _ _ _ _ _ _ _) rfl (by omega) dX4_alike_31 ?_
    refine lv_istore (lv' := [(5, .int ((wn.2 4) b1)), (4, .int ((wn.2 4) a1)), (0, .ref (h 0)), (1, .int (nI a1)), (2, .int (nI b1)), (3, .int what)]) hx hb dX4_alike_32 hl (by decide) rfl (fun ls hl => ?_)
    refine lv_aload_n hx hb dX4_alike_34 rfl (lv_at hl 2 rfl) ?_
    refine va_get (D := gD G) (ci := 4) (v := .ref (h 10)) (C := RX4) (T := TX4) (N := 9) hx hb hts hiX4 hown hK hP 0 (xp_0 _ _ _ _ _ _ _ _ _ _ _ _) rfl 0 (by decide) k10 (fun _ h9 => h9) rfl dX4_alike_35 ?_
    refine lv_iload hx hb dX4_alike_38 (lv_at hl 1 rfl) ?_
    refine lv_iload hx hb dX4_alike_40 (lv_at hl 0 rfl) ?_
    refine cRi (w := wv G (fun k => h (10 + k)) wn) (As := [.int ((wn.2 4) a1), .int ((wn.2 4) b1)]) (rest := []) ⟨hx, hb, hml, hown, hts⟩ (mt_X3_countInBoth l G (fun k => h (10 + k)) wn (sg.1 4) ((wn.2 4) a1) ((wn.2 4) b1) (hC.2.1) (by first | assumption | omega)) (cwV 2 hts gX4_alike_X3_countInBoth rfl rfl rfl ⟨rfl, hd_X3_countInBoth⟩ ⟨Nat.le_of_ble_eq_true rfl, Nat.le_of_ble_eq_true rfl⟩) hK hN (hP.sub [3, 4, 5, 6, 7, 8, 9, 10] (xf_now _ _ _ _ _ _ _ _ _ _ _ _)) 0 3 rfl rfl rfl hl.1 rfl (Nat.le_of_ble_eq_true rfl) ⟨Nat.zero_le _, Nat.zero_le _⟩ dX4_alike_42 (fun r42 hw42 => ?_)
    obtain rfl := hw42
    refine lv_istore (lv' := [(6, .int (nI (cnt (fun i => sdb (wn.2 7) (wn.2 8) ((wn.2 4) a1) i && sdb (wn.2 7) (wn.2 8) ((wn.2 4) b1) i) (sg.1 4)))), (5, .int ((wn.2 4) b1)), (4, .int ((wn.2 4) a1)), (0, .ref (h 0)), (1, .int (nI a1)), (2, .int (nI b1)), (3, .int what)]) hx hb dX4_alike_45 hl (by decide) rfl (fun ls hl => ?_)
    refine lv_iload_n hx hb dX4_alike_47 rfl (lv_at hl 6 rfl) ?_
    by_cases q48_0 : what = 0
    · skip
      subst q48_0
      refine lv_tableIn (tgt := 80) hx hb dX4_alike_48 (by decide) (by decide) rfl (by decide) ?_
      refine lv_iload hx hb dX4_alike_80 (lv_at hl 0 rfl) ?_
      exact W.iret (v := nI (cnt (fun i => sdb (wn.2 7) (wn.2 8) ((wn.2 4) a1) i && sdb (wn.2 7) (wn.2 8) ((wn.2 4) b1) i) (sg.1 4))) hx hb hr (fun t ht hW => ⟨nI (cnt (fun i => sdb (wn.2 7) (wn.2 8) ((wn.2 4) a1) i && sdb (wn.2 7) (wn.2 8) ((wn.2 4) b1) i) (sg.1 4)), rfl, by rw [aliA, if_pos (two_t hv24 ha1 hb1 hab), vN_n (j := a1) (by omega), vN_n (j := b1) (by omega), aliB, if_pos rfl]; exact by rw [(hC.2.2.2.2.2.1 a1 (by omega)), (hC.2.2.2.2.2.1 b1 (by omega))]; exact congrArg nI (cnt_c _ (fun k hk => by rw [hC.sd _ k hk, hC.sd _ k hk])), ht⟩) (fun _ h9 => by cases h9) dX4_alike_82
    by_cases q48_1 : what = 1
    · skip
      subst q48_1
      refine lv_tableIn (tgt := 83) hx hb dX4_alike_48 (by decide) (by decide) rfl (by decide) ?_
      refine lv_aload_n hx hb dX4_alike_83 rfl (lv_at hl 3 rfl) ?_
      refine va_get (D := gD G) (ci := 4) (v := .ref (h 10)) (C := RX4) (T := TX4) (N := 9) hx hb hts hiX4 hown hK hP 0 (xp_0 _ _ _ _ _ _ _ _ _ _ _ _) rfl 0 (by decide) k10 (fun _ h9 => h9) rfl dX4_alike_84 ?_
      refine lv_iload hx hb dX4_alike_87 (lv_at hl 2 rfl) ?_
      refine cRi (w := wv G (fun k => h (10 + k)) wn) (As := [.int ((wn.2 4) a1)]) (rest := []) ⟨hx, hb, hml, hown, hts⟩ (mt_X3_countStanding l G (fun k => h (10 + k)) wn (sg.1 4) ((wn.2 4) a1) (hC.2.1) (by first | assumption | omega)) (cwV 1 hts gX4_alike_X3_countStanding rfl rfl rfl ⟨rfl, hd_X3_countStanding⟩ ⟨Nat.le_of_ble_eq_true rfl, Nat.le_of_ble_eq_true rfl⟩) hK hN (hP.sub [3, 4, 5, 6, 7, 8, 9, 10] (xf_now _ _ _ _ _ _ _ _ _ _ _ _)) 0 3 rfl rfl rfl hl.1 rfl (Nat.le_of_ble_eq_true rfl) ⟨Nat.zero_le _, Nat.zero_le _⟩ dX4_alike_89 (fun r89 hw89 => ?_)
      obtain rfl := hw89
      have hc89 := cnt_le (sdb (wn.2 7) (wn.2 8) ((wn.2 4) a1)) (sg.1 4)
      refine lv_iload hx hb dX4_alike_92 (lv_at hl 0 rfl) ?_
      refine lv_isub hx hb dX4_alike_94 ?_
      exact W.iret (v := (nI (cnt (sdb (wn.2 7) (wn.2 8) ((wn.2 4) a1)) (sg.1 4))) - (nI (cnt (fun i => sdb (wn.2 7) (wn.2 8) ((wn.2 4) a1) i && sdb (wn.2 7) (wn.2 8) ((wn.2 4) b1) i) (sg.1 4)))) hx hb hr (fun t ht hW => ⟨(nI (cnt (sdb (wn.2 7) (wn.2 8) ((wn.2 4) a1)) (sg.1 4))) - (nI (cnt (fun i => sdb (wn.2 7) (wn.2 8) ((wn.2 4) a1) i && sdb (wn.2 7) (wn.2 8) ((wn.2 4) b1) i) (sg.1 4))), rfl, by rw [aliA, if_pos (two_t hv24 ha1 hb1 hab), vN_n (j := a1) (by omega), vN_n (j := b1) (by omega), aliB, if_neg (show ¬ (1 : Int32) = (0 : Int32) by decide), if_pos rfl]; exact by rw [(hC.2.2.2.2.2.1 a1 (by omega)), (hC.2.2.2.2.2.1 b1 (by omega)), hC.nl]; exact congrArg (fun q => nI (nlS sg (cvS sg a1)) - nI q) (cnt_c _ (fun k hk => by rw [hC.sd _ k hk, hC.sd _ k hk])), ht⟩) (fun _ h9 => by cases h9) dX4_alike_95
    by_cases q48_2 : what = 2
    · skip
      subst q48_2
      refine lv_tableIn (tgt := 96) hx hb dX4_alike_48 (by decide) (by decide) rfl (by decide) ?_
      refine lv_aload_n hx hb dX4_alike_96 rfl (lv_at hl 3 rfl) ?_
      refine va_get (D := gD G) (ci := 4) (v := .ref (h 10)) (C := RX4) (T := TX4) (N := 9) hx hb hts hiX4 hown hK hP 0 (xp_0 _ _ _ _ _ _ _ _ _ _ _ _) rfl 0 (by decide) k10 (fun _ h9 => h9) rfl dX4_alike_97 ?_
      refine lv_iload hx hb dX4_alike_100 (lv_at hl 1 rfl) ?_
      refine cRi (w := wv G (fun k => h (10 + k)) wn) (As := [.int ((wn.2 4) b1)]) (rest := []) ⟨hx, hb, hml, hown, hts⟩ (mt_X3_countStanding l G (fun k => h (10 + k)) wn (sg.1 4) ((wn.2 4) b1) (hC.2.1) (by first | assumption | omega)) (cwV 1 hts gX4_alike_X3_countStanding rfl rfl rfl ⟨rfl, hd_X3_countStanding⟩ ⟨Nat.le_of_ble_eq_true rfl, Nat.le_of_ble_eq_true rfl⟩) hK hN (hP.sub [3, 4, 5, 6, 7, 8, 9, 10] (xf_now _ _ _ _ _ _ _ _ _ _ _ _)) 0 3 rfl rfl rfl hl.1 rfl (Nat.le_of_ble_eq_true rfl) ⟨Nat.zero_le _, Nat.zero_le _⟩ dX4_alike_102 (fun r102 hw102 => ?_)
      obtain rfl := hw102
      have hc102 := cnt_le (sdb (wn.2 7) (wn.2 8) ((wn.2 4) b1)) (sg.1 4)
      refine lv_iload hx hb dX4_alike_105 (lv_at hl 0 rfl) ?_
      refine lv_isub hx hb dX4_alike_107 ?_
      exact W.iret (v := (nI (cnt (sdb (wn.2 7) (wn.2 8) ((wn.2 4) b1)) (sg.1 4))) - (nI (cnt (fun i => sdb (wn.2 7) (wn.2 8) ((wn.2 4) a1) i && sdb (wn.2 7) (wn.2 8) ((wn.2 4) b1) i) (sg.1 4)))) hx hb hr (fun t ht hW => ⟨(nI (cnt (sdb (wn.2 7) (wn.2 8) ((wn.2 4) b1)) (sg.1 4))) - (nI (cnt (fun i => sdb (wn.2 7) (wn.2 8) ((wn.2 4) a1) i && sdb (wn.2 7) (wn.2 8) ((wn.2 4) b1) i) (sg.1 4))), rfl, by rw [aliA, if_pos (two_t hv24 ha1 hb1 hab), vN_n (j := a1) (by omega), vN_n (j := b1) (by omega), aliB, if_neg (show ¬ (2 : Int32) = (0 : Int32) by decide), if_neg (show ¬ (2 : Int32) = (1 : Int32) by decide), if_pos rfl]; exact by rw [(hC.2.2.2.2.2.1 a1 (by omega)), (hC.2.2.2.2.2.1 b1 (by omega)), hC.nl]; exact congrArg (fun q => nI (nlS sg (cvS sg b1)) - nI q) (cnt_c _ (fun k hk => by rw [hC.sd _ k hk, hC.sd _ k hk])), ht⟩) (fun _ h9 => by cases h9) dX4_alike_108
    by_cases q48_3 : what = 3
    · skip
      subst q48_3
      refine lv_tableIn (tgt := 109) hx hb dX4_alike_48 (by decide) (by decide) rfl (by decide) ?_
      refine lv_aload_n hx hb dX4_alike_109 rfl (lv_at hl 3 rfl) ?_
      refine va_get (D := gD G) (ci := 4) (v := .ref (h 10)) (C := RX4) (T := TX4) (N := 9) hx hb hts hiX4 hown hK hP 0 (xp_0 _ _ _ _ _ _ _ _ _ _ _ _) rfl 0 (by decide) k10 (fun _ h9 => h9) rfl dX4_alike_110 ?_
      refine lv_iload hx hb dX4_alike_113 (lv_at hl 2 rfl) ?_
      refine lv_iload hx hb dX4_alike_115 (lv_at hl 1 rfl) ?_
      refine cRi (w := wv G (fun k => h (10 + k)) wn) (As := [.int ((wn.2 4) a1), .int ((wn.2 4) b1)]) (rest := []) ⟨hx, hb, hml, hown, hts⟩ (mt_X3_findPartF l G (fun k => h (10 + k)) wn (sg.1 4) ((wn.2 4) a1) ((wn.2 4) b1) (hC.2.1) (by first | assumption | omega)) (cwV 2 hts gX4_alike_X3_findPart rfl rfl rfl ⟨rfl, hd_X3_findPart⟩ ⟨Nat.le_of_ble_eq_true rfl, Nat.le_of_ble_eq_true rfl⟩) hK hN (hP.sub [3, 4, 5, 6, 7, 8, 9, 10] (xf_now _ _ _ _ _ _ _ _ _ _ _ _)) 0 3 rfl rfl rfl hl.1 rfl (Nat.le_of_ble_eq_true rfl) ⟨Nat.zero_le _, Nat.zero_le _⟩ dX4_alike_117 (fun r117 hw117 => ?_)
      obtain rfl := hw117
      exact W.iret (v := partP (sdb (wn.2 7) (wn.2 8) ((wn.2 4) a1)) (sdb (wn.2 7) (wn.2 8) ((wn.2 4) b1)) (sg.1 4)) hx hb hr (fun t ht hW => ⟨partP (sdb (wn.2 7) (wn.2 8) ((wn.2 4) a1)) (sdb (wn.2 7) (wn.2 8) ((wn.2 4) b1)) (sg.1 4), rfl, by rw [aliA, if_pos (two_t hv24 ha1 hb1 hab), vN_n (j := a1) (by omega), vN_n (j := b1) (by omega), aliB, if_neg (show ¬ (3 : Int32) = (0 : Int32) by decide), if_neg (show ¬ (3 : Int32) = (1 : Int32) by decide), if_neg (show ¬ (3 : Int32) = (2 : Int32) by decide), if_pos rfl]; exact by rw [(hC.2.2.2.2.2.1 a1 (by omega)), (hC.2.2.2.2.2.1 b1 (by omega))]; exact partP_c (hC.sd _) (hC.sd _), ht⟩) (fun _ h9 => by cases h9) dX4_alike_120
    have t48_0 : ¬ what.toInt = 0 := lv_neT q48_0 rfl
    have t48_1 : ¬ what.toInt = 1 := lv_neT q48_1 rfl
    have t48_2 : ¬ what.toInt = 2 := lv_neT q48_2 rfl
    have t48_3 : ¬ what.toInt = 3 := lv_neT q48_3 rfl
    refine lv_tableOut (tgt := 121) hx hb dX4_alike_48 (by omega) (by decide) ?_
    refine lv_ldc (v := (-1000000002 : Int32)) hx hb hown (hts (.constant RX4 56 (-1000000002)) (List.mem_of_getElem? (i := 3) rfl)) dX4_alike_121 ?_
    exact W.iret (v := (-1000000002 : Int32)) hx hb hr (fun t ht hW => ⟨(-1000000002 : Int32), rfl, by rw [aliA, if_pos (two_t hv24 ha1 hb1 hab), vN_n (j := a1) (by omega), vN_n (j := b1) (by omega), aliB, if_neg q48_0, if_neg q48_1, if_neg q48_2, if_neg q48_3], ht⟩) (fun _ h9 => by cases h9) dX4_alike_123
  · skip
    refine lv_if_ne (tgt := 12) hx hb dX4_alike_6 (by decide) (fun c9 => absurd (by decide) c9) (fun _ => ?_)
    refine lv_ldc (v := (-1000000001 : Int32)) hx hb hown (hts (.constant RX4 110 (-1000000001)) (List.mem_of_getElem? (i := 1) rfl)) dX4_alike_9 ?_
    exact W.iret (v := (-1000000001 : Int32)) hx hb hr (fun t ht hW => ⟨(-1000000001 : Int32), rfl, by rw [aliA, if_neg hno], ht⟩) (fun _ h9 => by cases h9) dX4_alike_11
set_option maxHeartbeats 1000000 in
set_option maxRecDepth 100000 in
theorem mt_X4_withoutS (l : Launch) (G : gG) (h : Nat → Nat) (x : oS) (wn : oS) (wa : oS) (w0 : oS) (w1 : oS) (rd : oS) (wr : oS) (z : oS) (jj : Nat → Nat → Int64) (lt : Int64) (sg : pS) (zz : Nat → Nat → Int64) (a : Int32) (b : Int32) (hIS : IS sg) (hRX : RepX x wn wa w0 w1 rd z jj sg zz) : Met l yX4_without wsX4_without ({ frames := 3, cells := 0, slots := 0, locals := 67 }) (preR G (xw G h x wn wa w0 w1 rd wr z jj lt) [.ref (h 0), .int a, .int b]) (vp_Si (fun r : Int32 => r = witA sg a b)) 0 0 (fun _ => False) := by
  refine Met.ofW (cc := cX4_without) (maxL := 3) (ret := (some .int)) (by decide) rfl ?_
  intro p e s m args below meth c s₁ B hml hv
  obtain ⟨ha, hP, hK, hN⟩ := hv
  subst ha
  have hx := B.exec
  have hb := B.bytes
  have hr := B.returns
  have hts := atoms_spec (ws := wsX4_without) B.pre
  have hown : s.vm.findClass RX4 = some m.cls := findClass_of_methodNamed B.named
  have hlocks := B.notSynchronized
  have hiX4 : ∀ w ∈ wsX40, w ∈ wsX4_without := fun w h9 => List.mem_cons_of_mem _ (List.mem_append_left _ (List.mem_append_right _ (h9)))
  have k10 := hts (.fieldLink RX4 10 "WovenHistory" "now" "LWovenHistory$Weave;") (List.mem_of_getElem? (i := 2) rfl)
  have hiX3 : ∀ w ∈ wsX30, w ∈ wsX4_without := fun w h9 => List.mem_cons_of_mem _ (List.mem_append_right _ (h9))
  have k115 : (Cond.fieldLinkNest "WovenHistory" 115 "WovenHistory$Weave" "changes" "[I" "WovenHistory").before _ s = true := va_Nw.use (A := ([.ref (h 0), .int a, .int b] : List Value).toArray) rfl (hN.1 ("WovenHistory", 115, "WovenHistory$Weave", "changes", "[I") (List.mem_of_getElem? (i := 1) rfl))
  have hl := lv_entry ([.ref (h 0), .int a, .int b]) (n := 3) (Nat.le_of_ble_eq_true rfl)
  rw [lg_entry_eq]
  generalize (lg_sl ([.ref (h 0), .int a, .int b]) ++ List.replicate (3 - (lg_sl ([.ref (h 0), .int a, .int b])).length) Slot.unset).toArray = ls at hl ⊢
  have hl : lv_has ls 3 [(0, .ref (h 0)), (1, .int a), (2, .int b)] := hl
  have hC := hRX.1
  have hic := hIS.ic
  have hv24 := hIS.1
  have hl120 := hIS.2.1
  have ho1 := hIS.2.2.1
  refine lv_aload_n hx hb dX4_without_0 rfl (lv_at hl 0 rfl) ?_
  refine lv_iload_n hx hb dX4_without_1 rfl (lv_at hl 1 rfl) ?_
  refine lv_iload_n hx hb dX4_without_2 rfl (lv_at hl 2 rfl) ?_
  refine cRi (w := xw G h x wn wa w0 w1 rd wr z jj lt) (As := [.int a, .int b]) (rest := []) ⟨hx, hb, hml, hown, hts⟩ (mt_X4_areTwoVersionsS l G h x wn wa w0 w1 rd wr z jj lt sg zz a b hIS hRX) (cwV 2 hts gX4_without_X4_areTwoVersions rfl rfl rfl ⟨rfl, hd_X4_areTwoVersions⟩ ⟨Nat.le_of_ble_eq_true rfl, Nat.le_of_ble_eq_true rfl⟩) hK hN hP 0 4 rfl rfl rfl hl.1 rfl (Nat.le_of_ble_eq_true rfl) ⟨Nat.zero_le _, Nat.zero_le _⟩ dX4_without_3 (fun r3 hw3 => ?_)
  rcases hw3 with ⟨rfl, a1, b1, ha1, hb1, rfl, rfl, hab⟩ | ⟨rfl, hno⟩
  · skip
    refine lv_if_ne (tgt := 12) hx hb dX4_without_6 (by decide) (fun _ => ?_) (fun c9 => absurd c9 (by decide))
    refine lv_aload_n hx hb dX4_without_12 rfl (lv_at hl 0 rfl) ?_
    refine va_get (D := gD G) (ci := 4) (v := .ref (h 10)) (C := RX4) (T := TX4) (N := 9) hx hb hts hiX4 hown hK hP 0 (xp_0 _ _ _ _ _ _ _ _ _ _ _ _) rfl 0 (by decide) k10 (fun _ h9 => h9) rfl dX4_without_13 ?_
    refine lv_aload_n hx hb dX4_without_16 rfl (lv_at hl 0 rfl) ?_
    refine va_get (D := gD G) (ci := 4) (v := .ref (h 10)) (C := RX4) (T := TX4) (N := 9) hx hb hts hiX4 hown hK hP 0 (xp_0 _ _ _ _ _ _ _ _ _ _ _ _) rfl 0 (by decide) k10 (fun _ h9 => h9) rfl dX4_without_17 ?_
    refine va_getN (D := gD G) (ci := 3) (v := .ref (h 14)) (C := RX3) (T := TX3) (N := 9) hx hb hts hiX3 hown hK hP 3 (xp_3 _ _ _ _ _ _ _ _ _ _ _ _) rfl 4 (by decide) k115 (fun _ h9 => h9) rfl dX4_without_20 ?_
    refine lv_iload_n hx hb dX4_without_23 rfl (lv_at hl 1 rfl) ?_
    refine ialdN (f := wn.2 4) (n := 24) (k := a1) hx hb hK hP 7 (xp_7 _ _ _ _ _ _ _ _ _ _ _ _) rfl (by omega) dX4_without_24 ?_
    refine lv_iload_n hx hb dX4_without_25 rfl (lv_at hl 2 rfl) ?_
    refine cSi (As := [.int (nI b1)]) (rest := [.int ((wn.2 4) a1), .ref (h 10)]) ⟨hx, hb, hml, hown, hts⟩ (mt_X3_onlyF l (nI b1)) (va_cwS 1 hts gX4_without_X3_only rfl rfl rfl hd_X3_only ⟨Nat.le_of_ble_eq_true rfl, Nat.le_of_ble_eq_true rfl⟩) rfl hl.1 rfl (Nat.le_of_ble_eq_true rfl) ⟨Nat.zero_le _, Nat.zero_le _⟩ dX4_without_26 (fun r26 hw26 => ?_)
    obtain rfl := hw26
    refine topE (onl_n (v := b1) (by omega)) ?_
    refine lv_iconst (v := (-1 : Int32)) hx hb dX4_without_29 (by decide) ?_
    refine lv_ixor hx hb dX4_without_30 ?_
    refine lv_iand hx hb dX4_without_31 ?_
    refine cRi (w := wv G (fun k => h (10 + k)) wn) (As := [.int (((wn.2 4) a1) &&& (((1 : Int32) <<< (nI b1 &&& 31)) ^^^ (-1 : Int32)))]) (rest := []) ⟨hx, hb, hml, hown, hts⟩ (mt_X3_countStanding l G (fun k => h (10 + k)) wn (sg.1 4) (((wn.2 4) a1) &&& (((1 : Int32) <<< (nI b1 &&& 31)) ^^^ (-1 : Int32))) (hC.2.1) (by first | assumption | omega)) (cwV 1 hts gX4_without_X3_countStanding rfl rfl rfl ⟨rfl, hd_X3_countStanding⟩ ⟨Nat.le_of_ble_eq_true rfl, Nat.le_of_ble_eq_true rfl⟩) hK hN (hP.sub [3, 4, 5, 6, 7, 8, 9, 10] (xf_now _ _ _ _ _ _ _ _ _ _ _ _)) 0 3 rfl rfl rfl hl.1 rfl (Nat.le_of_ble_eq_true rfl) ⟨Nat.zero_le _, Nat.zero_le _⟩ dX4_without_32 (fun r32 hw32 => ?_)
    obtain rfl := hw32
    have hc32 := cnt_le (sdb (wn.2 7) (wn.2 8) (((wn.2 4) a1) &&& (((1 : Int32) <<< (nI b1 &&& 31)) ^^^ (-1 : Int32)))) (sg.1 4)
    exact W.iret (v := nI (cnt (sdb (wn.2 7) (wn.2 8) (((wn.2 4) a1) &&& (((1 : Int32) <<< (nI b1 &&& 31)) ^^^ (-1 : Int32)))) (sg.1 4))) hx hb hr (fun t ht hW => ⟨nI (cnt (sdb (wn.2 7) (wn.2 8) (((wn.2 4) a1) &&& (((1 : Int32) <<< (nI b1 &&& 31)) ^^^ (-1 : Int32)))) (sg.1 4)), rfl, by rw [witA, if_pos (two_t hv24 ha1 hb1 hab), vN_n (j := a1) (by omega), vN_n (j := b1) (by omega), (hC.2.2.2.2.2.1 a1 (by omega))]; exact congrArg nI (hC.nl _), ht⟩) (fun _ h9 => by cases h9) dX4_without_35
  · skip
    refine lv_if_ne (tgt := 12) hx hb dX4_without_6 (by decide) (fun c9 => absurd (by decide) c9) (fun _ => ?_)
    refine lv_ldc (v := (-1000000001 : Int32)) hx hb hown (hts (.constant RX4 110 (-1000000001)) (List.mem_of_getElem? (i := 1) rfl)) dX4_without_9 ?_
    exact W.iret (v := (-1000000001 : Int32)) hx hb hr (fun t ht hW => ⟨(-1000000001 : Int32), rfl, by rw [witA, if_neg hno], ht⟩) (fun _ h9 => by cases h9) dX4_without_11
