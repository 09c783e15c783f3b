set_option maxHeartbeats 4000000 in
set_option maxRecDepth 100000 in
theorem lc_20 {p : Program} {l : Launch} {e : Env} {s : State} {m : MethodId} {below : List Frame} {meth : Method} {c : Code} {G : gG} {ax am : Nat → Nat} {b L : Nat} {xs : Nat → Int32} (C0 : lw_At p s m meth c b L xs) (hK : KK G s) (hN : NN s) (i : Nat) (hi : i + 5 ≤ L) (hL : L ≤ 2560) (kk : LKC p l e s m below meth c G ax am b i 1004) : LKC p l e s m below meth c G ax am b i 700 := by
  obtain ⟨hx, hb, hr, hml, hown, hts, hX, hbl, hlocks, hgv⟩ := C0
  have htl : ∀ w ∈ wsL_law, w.before #[Value.ref b] s = true := fun w h => hts w (wsL_law_in w h)
  have hown : s.vm.findClass RL = some m.cls := hown
  have hA : ∀ q : Nat, s.heap.size ≤ q → (fun q : Nat => s.heap.size ≤ q) q := fun _ h => h
  have hbA : ¬ (fun q : Nat => s.heap.size ≤ q) b := Nat.not_le.mpr hbl
  intro x wn wa w0 w1 rd wr z jj lt u lm sj hI H locs ls hP hD hS hl
  obtain ⟨sg, zz, hIS, hRX, hRM⟩ := hI
  obtain ⟨Mh, hMI⟩ := hRM.mix hIS
  have htx9 : rwE (rd.2 0) (u.2 9) (sg.1 10) := hRX.2.2.2.2.1.trans hRM.2.2.2.1.symm
  have hlet : ∀ i, i < sg.1 10 → ∃ j, j ≤ 255 ∧ u.2 9 i = nI j := fun i hi => by rw [hRM.2.2.2.1 i hi]; exact hIS.2.2.2.2.2.2.1 i hi
  have hin1 : vp_in (nI (i + 1)) L := vp_in_nI (by omega) (by omega)
  generalize ey1 : xs (nI (i + 1)).toNatClampNeg = y1
  have hin2 : vp_in (nI (i + 2)) L := vp_in_nI (by omega) (by omega)
  generalize ey2 : xs (nI (i + 2)).toNatClampNeg = y2
  refine lv_aload_n hx hb dL_law_700 rfl (lv_at hl 1 rfl) ?_
  refine lv_aload_n hx hb dL_law_701 rfl (lv_at hl 0 rfl) ?_
  refine lv_iload_n hx hb dL_law_702 rfl (lv_at hl 3 rfl) ?_
  refine lv_iconst (v := nI 1) hx hb dL_law_703 (by decide) ?_
  refine lv_iadd hx hb dL_law_704 ?_
  refine topE (y := nI (i + 1)) (nI_add i 1) ?_
  refine va_sld hx hb hX hbl hbA hS hin1 dL_law_705 ?_
  refine topE ey1 ?_
  refine lv_aload_n hx hb dL_law_706 rfl (lv_at hl 0 rfl) ?_
  refine lv_iload_n hx hb dL_law_707 rfl (lv_at hl 3 rfl) ?_
  refine lv_iconst (v := nI 2) hx hb dL_law_708 (by decide) ?_
  refine lv_iadd hx hb dL_law_709 ?_
  refine topE (y := nI (i + 2)) (nI_add i 2) ?_
  refine va_sld hx hb hX hbl hbA hS hin2 dL_law_710 ?_
  refine topE ey2 ?_
  refine cWi (As := [.int y1, .int y2]) (rest := []) (S := oS × oS × oS × oS × oS × oS × oS × oS × (Nat → Nat → Int64) × Int64) (wa := LWd G ax am x wn wa w0 w1 rd wr z jj lt u lm sj) (wc := xw G ax x wn wa w0 w1 rd wr z jj lt) (w1 := fun v => xw G ax v.1 v.2.1 v.2.2.1 v.2.2.2.1 v.2.2.2.2.1 v.2.2.2.2.2.1 v.2.2.2.2.2.2.1 v.2.2.2.2.2.2.2.1 v.2.2.2.2.2.2.2.2.1 v.2.2.2.2.2.2.2.2.2) (wa' := fun v => LWd G ax am v.1 v.2.1 v.2.2.1 v.2.2.2.1 v.2.2.2.2.1 v.2.2.2.2.2.1 v.2.2.2.2.2.2.1 v.2.2.2.2.2.2.2.1 v.2.2.2.2.2.2.2.2.1 v.2.2.2.2.2.2.2.2.2 u lm sj) ⟨hx, hb, hml, hown, htl⟩ (mt_X4_sheetS l G ax _ x wn wa w0 w1 rd wr z jj lt sg zz y1 y2 hIS hRX) (cwV 2 htl gL_law_X4_sheet rfl rfl rfl ⟨rfl, hd_X4_sheet⟩ ⟨Nat.le_of_ble_eq_true rfl, Nat.le_of_ble_eq_true rfl⟩) hK hN hP hD hS hA [0, 1, 2, 3, 4, 5, 6, 7, 8, 9, 10, 11, 12, 13, 14, 15, 16, 17, 18, 19, 20, 21, 22, 23, 24, 25, 26, 27, 28, 29, 30, 31, 32, 33, 34, 35, 36, 37, 38, 39, 40, 41, 42, 43, 44, 45, 46, 47, 48, 49, 50, 51, 52, 53, 54] (lxc G ax am x wn wa w0 w1 rd wr z jj lt u lm sj) (by decide) (lxf G ax am x wn wa w0 w1 rd wr z jj lt u lm sj) (fun v => lxl G ax am x wn wa w0 w1 rd wr z jj lt u lm sj v) (fun v => lxo G ax am x wn wa w0 w1 rd wr z jj lt u lm sj v) (fun v => lxm G ax am x wn wa w0 w1 rd wr z jj lt u lm sj v) 0 4 rfl rfl rfl hl.1 rfl (Nat.le_of_ble_eq_true rfl) ⟨Nat.le_of_ble_eq_true rfl, Nat.le_of_ble_eq_true rfl⟩ dL_law_711 (fun rX vX H locs hwX hP hD hS => ?_)
  obtain ⟨x1, wn1, wa1, w01, w11, rd1, wr1, z1, jj1, lt1⟩ := vX
  obtain ⟨hX1, hX2⟩ := hwX
  have hX1 : RepX x1 wn1 wa1 w01 w11 rd1 z1 jj1 (sheF sg y1 y2) (sheZ zz y1 y2) := hX1
  have hP : PP G (LWd G ax am x1 wn1 wa1 w01 w11 rd1 wr1 z1 jj1 lt1 u lm sj) H := hP
  have hD : va_D (fun q : Nat => s.heap.size ≤ q) (LWd G ax am x1 wn1 wa1 w01 w11 rd1 wr1 z1 jj1 lt1 u lm sj) := hD
  refine lv_pop hx hb dL_law_714 rfl ?_
  refine lv_aload_n hx hb dL_law_715 rfl (lv_at hl 2 rfl) ?_
  refine lv_aload_n hx hb dL_law_716 rfl (lv_at hl 0 rfl) ?_
  refine lv_iload_n hx hb dL_law_717 rfl (lv_at hl 3 rfl) ?_
  refine lv_iconst (v := nI 1) hx hb dL_law_718 (by decide) ?_
  refine lv_iadd hx hb dL_law_719 ?_
  refine topE (y := nI (i + 1)) (nI_add i 1) ?_
  refine va_sld hx hb hX hbl hbA hS hin1 dL_law_720 ?_
  refine topE ey1 ?_
  refine lv_aload_n hx hb dL_law_721 rfl (lv_at hl 0 rfl) ?_
  refine lv_iload_n hx hb dL_law_722 rfl (lv_at hl 3 rfl) ?_
  refine lv_iconst (v := nI 2) hx hb dL_law_723 (by decide) ?_
  refine lv_iadd hx hb dL_law_724 ?_
  refine topE (y := nI (i + 2)) (nI_add i 2) ?_
  refine va_sld hx hb hX hbl hbA hS hin2 dL_law_725 ?_
  refine topE ey2 ?_
  refine cWi (As := [.int y1, .int y2]) (rest := []) (S := oS × Int64 × (Nat → Int64)) (wa := LWd G ax am x1 wn1 wa1 w01 w11 rd1 wr1 z1 jj1 lt1 u lm sj) (wc := mw G am u lm sj) (w1 := fun v => mw G am v.1 v.2.1 v.2.2) (wa' := fun v => LWd G ax am x1 wn1 wa1 w01 w11 rd1 wr1 z1 jj1 lt1 v.1 v.2.1 v.2.2) ⟨hx, hb, hml, hown, htl⟩ (mt_X5_sheetS l G am _ u lm sj sg zz y1 y2 Mh hMI hIS hRM) (cwV 2 htl gL_law_X5_sheet rfl rfl rfl ⟨rfl, hd_X5_sheet⟩ ⟨Nat.le_of_ble_eq_true rfl, Nat.le_of_ble_eq_true rfl⟩) hK hN hP hD hS hA [55, 56, 57, 58, 59, 60, 61, 62, 63, 64, 65, 66, 67, 68, 69, 70, 71, 72, 73, 74, 75, 76, 77, 78, 79, 80] (lmc G ax am x1 wn1 wa1 w01 w11 rd1 wr1 z1 jj1 lt1 u lm sj) (by decide) (lmf G ax am x1 wn1 wa1 w01 w11 rd1 wr1 z1 jj1 lt1 u lm sj) (fun v => lml G ax am x1 wn1 wa1 w01 w11 rd1 wr1 z1 jj1 lt1 u lm sj v) (fun v => lmo G ax am x1 wn1 wa1 w01 w11 rd1 wr1 z1 jj1 lt1 u lm sj v) (fun v => lmm G ax am x1 wn1 wa1 w01 w11 rd1 wr1 z1 jj1 lt1 u lm sj v) 0 5 rfl rfl rfl hl.1 rfl (Nat.le_of_ble_eq_true rfl) ⟨Nat.le_of_ble_eq_true rfl, Nat.le_of_ble_eq_true rfl⟩ dL_law_726 (fun rM vM H locs hwM hP hD hS => ?_)
  obtain ⟨u1, lm1, sj1⟩ := vM
  obtain ⟨hM1, hM2⟩ := hwM
  have hM1 : RepM u1 sj1 (sheF sg y1 y2) (sheZ zz y1 y2) := hM1
  have hP : PP G (LWd G ax am x1 wn1 wa1 w01 w11 rd1 wr1 z1 jj1 lt1 u1 lm1 sj1) H := hP
  have hD : va_D (fun q : Nat => s.heap.size ≤ q) (LWd G ax am x1 wn1 wa1 w01 w11 rd1 wr1 z1 jj1 lt1 u1 lm1 sj1) := hD
  refine lv_pop hx hb dL_law_729 rfl ?_
  refine lv_goto (tgt := 1004) hx hb dL_law_730 (by decide) ?_
  exact kk x1 wn1 wa1 w01 w11 rd1 wr1 z1 jj1 lt1 u1 lm1 sj1 ⟨sheF sg y1 y2, sheZ zz y1 y2, IS_sheF hIS, hX1, hM1⟩ _ _ ls hP hD hS hl
set_option maxHeartbeats 4000000 in
set_option maxRecDepth 100000 in
theorem lc_21 {p : Program} {l : Launch} {e : Env} {s : State} {m : MethodId} {below : List Frame} {meth : Method} {c : Code} {G : gG} {ax am : Nat → Nat} {b L : Nat} {xs : Nat → Int32} (C0 : lw_At p s m meth c b L xs) (hK : KK G s) (hN : NN s) (i : Nat) (hi : i + 5 ≤ L) (hL : L ≤ 2560) (kk : LKC p l e s m below meth c G ax am b i 1004) : LKC p l e s m below meth c G ax am b i 733 := by
  obtain ⟨hx, hb, hr, hml, hown, hts, hX, hbl, hlocks, hgv⟩ := C0
  have htl : ∀ w ∈ wsL_law, w.before #[Value.ref b] s = true := fun w h => hts w (wsL_law_in w h)
  have hown : s.vm.findClass RL = some m.cls := hown
  have hA : ∀ q : Nat, s.heap.size ≤ q → (fun q : Nat => s.heap.size ≤ q) q := fun _ h => h
  have hbA : ¬ (fun q : Nat => s.heap.size ≤ q) b := Nat.not_le.mpr hbl
  intro x wn wa w0 w1 rd wr z jj lt u lm sj hI H locs ls hP hD hS hl
  obtain ⟨sg, zz, hIS, hRX, hRM⟩ := hI
  obtain ⟨Mh, hMI⟩ := hRM.mix hIS
  have htx9 : rwE (rd.2 0) (u.2 9) (sg.1 10) := hRX.2.2.2.2.1.trans hRM.2.2.2.1.symm
  have hlet : ∀ i, i < sg.1 10 → ∃ j, j ≤ 255 ∧ u.2 9 i = nI j := fun i hi => by rw [hRM.2.2.2.1 i hi]; exact hIS.2.2.2.2.2.2.1 i hi
  have hin1 : vp_in (nI (i + 1)) L := vp_in_nI (by omega) (by omega)
  generalize ey1 : xs (nI (i + 1)).toNatClampNeg = y1
  have hin2 : vp_in (nI (i + 2)) L := vp_in_nI (by omega) (by omega)
  generalize ey2 : xs (nI (i + 2)).toNatClampNeg = y2
  have hin3 : vp_in (nI (i + 3)) L := vp_in_nI (by omega) (by omega)
  generalize ey3 : xs (nI (i + 3)).toNatClampNeg = y3
  have hin4 : vp_in (nI (i + 4)) L := vp_in_nI (by omega) (by omega)
  generalize ey4 : xs (nI (i + 4)).toNatClampNeg = y4
  refine lv_aload_n hx hb dL_law_733 rfl (lv_at hl 1 rfl) ?_
  refine lv_aload_n hx hb dL_law_734 rfl (lv_at hl 0 rfl) ?_
  refine lv_iload_n hx hb dL_law_735 rfl (lv_at hl 3 rfl) ?_
  refine lv_iconst (v := nI 1) hx hb dL_law_736 (by decide) ?_
  refine lv_iadd hx hb dL_law_737 ?_
  refine topE (y := nI (i + 1)) (nI_add i 1) ?_
  refine va_sld hx hb hX hbl hbA hS hin1 dL_law_738 ?_
  refine topE ey1 ?_
  refine lv_aload_n hx hb dL_law_739 rfl (lv_at hl 0 rfl) ?_
  refine lv_iload_n hx hb dL_law_740 rfl (lv_at hl 3 rfl) ?_
  refine lv_iconst (v := nI 2) hx hb dL_law_741 (by decide) ?_
  refine lv_iadd hx hb dL_law_742 ?_
  refine topE (y := nI (i + 2)) (nI_add i 2) ?_
  refine va_sld hx hb hX hbl hbA hS hin2 dL_law_743 ?_
  refine topE ey2 ?_
  refine lv_aload_n hx hb dL_law_744 rfl (lv_at hl 0 rfl) ?_
  refine lv_iload_n hx hb dL_law_745 rfl (lv_at hl 3 rfl) ?_
  refine lv_iconst (v := nI 3) hx hb dL_law_746 (by decide) ?_
  refine lv_iadd hx hb dL_law_747 ?_
  refine topE (y := nI (i + 3)) (nI_add i 3) ?_
  refine va_sld hx hb hX hbl hbA hS hin3 dL_law_748 ?_
  refine topE ey3 ?_
  refine lv_i2l (v := y3.toInt64) hx hb dL_law_749 rfl ?_
  refine lv_bipush (v := (32 : Int32)) hx hb dL_law_750 (by decide) ?_
  refine lv_lshl (v := y3.toInt64 <<< (((32 : Int32)).toInt64 &&& 63)) hx hb dL_law_752 rfl ?_
  refine lv_aload_n hx hb dL_law_753 rfl (lv_at hl 0 rfl) ?_
  refine lv_iload_n hx hb dL_law_754 rfl (lv_at hl 3 rfl) ?_
  refine lv_iconst (v := nI 4) hx hb dL_law_755 (by decide) ?_
  refine lv_iadd hx hb dL_law_756 ?_
  refine topE (y := nI (i + 4)) (nI_add i 4) ?_
  refine va_sld hx hb hX hbl hbA hS hin4 dL_law_757 ?_
  refine topE ey4 ?_
  refine lv_i2l (v := y4.toInt64) hx hb dL_law_758 rfl ?_
  refine lv_ldc2 (v := 4294967295) hx hb hown (htl (.constantLong RL 101 (4294967295)) (List.mem_of_getElem? (i := 6) rfl)) dL_law_759 ?_
  refine lv_land hx hb dL_law_762 ?_
  refine lv_lor hx hb dL_law_763 ?_
  refine cWl (As := [.int y1, .int y2, .long ((y3.toInt64 <<< (((32 : Int32)).toInt64 &&& 63)) ||| (y4.toInt64 &&& 4294967295))]) (rest := []) (S := oS × oS × oS × oS × oS × oS × oS × oS × (Nat → Nat → Int64) × Int64) (wa := LWd G ax am x wn wa w0 w1 rd wr z jj lt u lm sj) (wc := xw G ax x wn wa w0 w1 rd wr z jj lt) (w1 := fun v => xw G ax v.1 v.2.1 v.2.2.1 v.2.2.2.1 v.2.2.2.2.1 v.2.2.2.2.2.1 v.2.2.2.2.2.2.1 v.2.2.2.2.2.2.2.1 v.2.2.2.2.2.2.2.2.1 v.2.2.2.2.2.2.2.2.2) (wa' := fun v => LWd G ax am v.1 v.2.1 v.2.2.1 v.2.2.2.1 v.2.2.2.2.1 v.2.2.2.2.2.1 v.2.2.2.2.2.2.1 v.2.2.2.2.2.2.2.1 v.2.2.2.2.2.2.2.2.1 v.2.2.2.2.2.2.2.2.2 u lm sj) ⟨hx, hb, hml, hown, htl⟩ (mt_X4_setS l G ax _ x wn wa w0 w1 rd wr z jj lt sg zz y1 y2 ((y3.toInt64 <<< (((32 : Int32)).toInt64 &&& 63)) ||| (y4.toInt64 &&& 4294967295)) hIS hRX) (cwV 3 htl gL_law_X4_set rfl rfl rfl ⟨rfl, hd_X4_set⟩ ⟨Nat.le_of_ble_eq_true rfl, Nat.le_of_ble_eq_true rfl⟩) hK hN hP hD hS hA [0, 1, 2, 3, 4, 5, 6, 7, 8, 9, 10, 11, 12, 13, 14, 15, 16, 17, 18, 19, 20, 21, 22, 23, 24, 25, 26, 27, 28, 29, 30, 31, 32, 33, 34, 35, 36, 37, 38, 39, 40, 41, 42, 43, 44, 45, 46, 47, 48, 49, 50, 51, 52, 53, 54] (lxc G ax am x wn wa w0 w1 rd wr z jj lt u lm sj) (by decide) (lxf G ax am x wn wa w0 w1 rd wr z jj lt u lm sj) (fun v => lxl G ax am x wn wa w0 w1 rd wr z jj lt u lm sj v) (fun v => lxo G ax am x wn wa w0 w1 rd wr z jj lt u lm sj v) (fun v => lxm G ax am x wn wa w0 w1 rd wr z jj lt u lm sj v) 0 4 rfl rfl rfl hl.1 rfl (Nat.le_of_ble_eq_true rfl) ⟨Nat.le_of_ble_eq_true rfl, Nat.le_of_ble_eq_true rfl⟩ dL_law_764 (fun rX vX H locs hwX hP hD hS => ?_)
  obtain ⟨x1, wn1, wa1, w01, w11, rd1, wr1, z1, jj1, lt1⟩ := vX
  obtain ⟨hX1, hX2⟩ := hwX
  have hX1 : RepX x1 wn1 wa1 w01 w11 rd1 z1 jj1 (sg) (setZ sg zz y1 y2 ((y3.toInt64 <<< (((32 : Int32)).toInt64 &&& 63)) ||| (y4.toInt64 &&& 4294967295))) := hX1
  have hP : PP G (LWd G ax am x1 wn1 wa1 w01 w11 rd1 wr1 z1 jj1 lt1 u lm sj) H := hP
  have hD : va_D (fun q : Nat => s.heap.size ≤ q) (LWd G ax am x1 wn1 wa1 w01 w11 rd1 wr1 z1 jj1 lt1 u lm sj) := hD
  refine lv_pop2_2 hx hb dL_law_767 rfl ?_
  refine lv_aload_n hx hb dL_law_768 rfl (lv_at hl 2 rfl) ?_
  refine lv_aload_n hx hb dL_law_769 rfl (lv_at hl 0 rfl) ?_
  refine lv_iload_n hx hb dL_law_770 rfl (lv_at hl 3 rfl) ?_
  refine lv_iconst (v := nI 1) hx hb dL_law_771 (by decide) ?_
  refine lv_iadd hx hb dL_law_772 ?_
  refine topE (y := nI (i + 1)) (nI_add i 1) ?_
  refine va_sld hx hb hX hbl hbA hS hin1 dL_law_773 ?_
  refine topE ey1 ?_
  refine lv_aload_n hx hb dL_law_774 rfl (lv_at hl 0 rfl) ?_
  refine lv_iload_n hx hb dL_law_775 rfl (lv_at hl 3 rfl) ?_
  refine lv_iconst (v := nI 2) hx hb dL_law_776 (by decide) ?_
  refine lv_iadd hx hb dL_law_777 ?_
  refine topE (y := nI (i + 2)) (nI_add i 2) ?_
  refine va_sld hx hb hX hbl hbA hS hin2 dL_law_778 ?_
  refine topE ey2 ?_
  refine lv_aload_n hx hb dL_law_779 rfl (lv_at hl 0 rfl) ?_
  refine lv_iload_n hx hb dL_law_780 rfl (lv_at hl 3 rfl) ?_
  refine lv_iconst (v := nI 3) hx hb dL_law_781 (by decide) ?_
  refine lv_iadd hx hb dL_law_782 ?_
  refine topE (y := nI (i + 3)) (nI_add i 3) ?_
  refine va_sld hx hb hX hbl hbA hS hin3 dL_law_783 ?_
  refine topE ey3 ?_
  refine lv_i2l (v := y3.toInt64) hx hb dL_law_784 rfl ?_
  refine lv_bipush (v := (32 : Int32)) hx hb dL_law_785 (by decide) ?_
  refine lv_lshl (v := y3.toInt64 <<< (((32 : Int32)).toInt64 &&& 63)) hx hb dL_law_787 rfl ?_
  refine lv_aload_n hx hb dL_law_788 rfl (lv_at hl 0 rfl) ?_
  refine lv_iload_n hx hb dL_law_789 rfl (lv_at hl 3 rfl) ?_
  refine lv_iconst (v := nI 4) hx hb dL_law_790 (by decide) ?_
  refine lv_iadd hx hb dL_law_791 ?_
  refine topE (y := nI (i + 4)) (nI_add i 4) ?_
  refine va_sld hx hb hX hbl hbA hS hin4 dL_law_792 ?_
  refine topE ey4 ?_
  refine lv_i2l (v := y4.toInt64) hx hb dL_law_793 rfl ?_
  refine lv_ldc2 (v := 4294967295) hx hb hown (htl (.constantLong RL 101 (4294967295)) (List.mem_of_getElem? (i := 6) rfl)) dL_law_794 ?_
  refine lv_land hx hb dL_law_797 ?_
  refine lv_lor hx hb dL_law_798 ?_
  refine cWl (As := [.int y1, .int y2, .long ((y3.toInt64 <<< (((32 : Int32)).toInt64 &&& 63)) ||| (y4.toInt64 &&& 4294967295))]) (rest := []) (S := oS × Int64 × (Nat → Int64)) (wa := LWd G ax am x1 wn1 wa1 w01 w11 rd1 wr1 z1 jj1 lt1 u lm sj) (wc := mw G am u lm sj) (w1 := fun v => mw G am v.1 v.2.1 v.2.2) (wa' := fun v => LWd G ax am x1 wn1 wa1 w01 w11 rd1 wr1 z1 jj1 lt1 v.1 v.2.1 v.2.2) ⟨hx, hb, hml, hown, htl⟩ (mt_X5_setS l G am _ u lm sj sg zz y1 y2 ((y3.toInt64 <<< (((32 : Int32)).toInt64 &&& 63)) ||| (y4.toInt64 &&& 4294967295)) Mh hMI hIS hRM) (cwV 3 htl gL_law_X5_set rfl rfl rfl ⟨rfl, hd_X5_set⟩ ⟨Nat.le_of_ble_eq_true rfl, Nat.le_of_ble_eq_true rfl⟩) hK hN hP hD hS hA [55, 56, 57, 58, 59, 60, 61, 62, 63, 64, 65, 66, 67, 68, 69, 70, 71, 72, 73, 74, 75, 76, 77, 78, 79, 80] (lmc G ax am x1 wn1 wa1 w01 w11 rd1 wr1 z1 jj1 lt1 u lm sj) (by decide) (lmf G ax am x1 wn1 wa1 w01 w11 rd1 wr1 z1 jj1 lt1 u lm sj) (fun v => lml G ax am x1 wn1 wa1 w01 w11 rd1 wr1 z1 jj1 lt1 u lm sj v) (fun v => lmo G ax am x1 wn1 wa1 w01 w11 rd1 wr1 z1 jj1 lt1 u lm sj v) (fun v => lmm G ax am x1 wn1 wa1 w01 w11 rd1 wr1 z1 jj1 lt1 u lm sj v) 0 5 rfl rfl rfl hl.1 rfl (Nat.le_of_ble_eq_true rfl) ⟨Nat.le_of_ble_eq_true rfl, Nat.le_of_ble_eq_true rfl⟩ dL_law_799 (fun rM vM H locs hwM hP hD hS => ?_)
  obtain ⟨u1, lm1, sj1⟩ := vM
  obtain ⟨hM1, hM2⟩ := hwM
  have hM1 : RepM u1 sj1 (sg) (setZ sg zz y1 y2 ((y3.toInt64 <<< (((32 : Int32)).toInt64 &&& 63)) ||| (y4.toInt64 &&& 4294967295))) := hM1
  have hP : PP G (LWd G ax am x1 wn1 wa1 w01 w11 rd1 wr1 z1 jj1 lt1 u1 lm1 sj1) H := hP
  have hD : va_D (fun q : Nat => s.heap.size ≤ q) (LWd G ax am x1 wn1 wa1 w01 w11 rd1 wr1 z1 jj1 lt1 u1 lm1 sj1) := hD
  refine lv_pop2_2 hx hb dL_law_802 rfl ?_
  refine lv_goto (tgt := 1004) hx hb dL_law_803 (by decide) ?_
  exact kk x1 wn1 wa1 w01 w11 rd1 wr1 z1 jj1 lt1 u1 lm1 sj1 ⟨sg, setZ sg zz y1 y2 ((y3.toInt64 <<< (((32 : Int32)).toInt64 &&& 63)) ||| (y4.toInt64 &&& 4294967295)), hIS, hX1, hM1⟩ _ _ ls hP hD hS hl
set_option maxHeartbeats 4000000 in
set_option maxRecDepth 100000 in
theorem lc_22 {p : Program} {l : Launch} {e : Env} {s : State} {m : MethodId} {below : List Frame} {meth : Method} {c : Code} {G : gG} {ax am : Nat → Nat} {b L : Nat} {xs : Nat → Int32} (C0 : lw_At p s m meth c b L xs) (hK : KK G s) (hN : NN s) (i : Nat) (hi : i + 5 ≤ L) (hL : L ≤ 2560) (kk : LKC p l e s m below meth c G ax am b i 1004) : LKC p l e s m below meth c G ax am b i 806 := by
  obtain ⟨hx, hb, hr, hml, hown, hts, hX, hbl, hlocks, hgv⟩ := C0
  have htl : ∀ w ∈ wsL_law, w.before #[Value.ref b] s = true := fun w h => hts w (wsL_law_in w h)
  have hown : s.vm.findClass RL = some m.cls := hown
  have hA : ∀ q : Nat, s.heap.size ≤ q → (fun q : Nat => s.heap.size ≤ q) q := fun _ h => h
  have hbA : ¬ (fun q : Nat => s.heap.size ≤ q) b := Nat.not_le.mpr hbl
  intro x wn wa w0 w1 rd wr z jj lt u lm sj hI H locs ls hP hD hS hl
  obtain ⟨sg, zz, hIS, hRX, hRM⟩ := hI
  obtain ⟨Mh, hMI⟩ := hRM.mix hIS
  have htx9 : rwE (rd.2 0) (u.2 9) (sg.1 10) := hRX.2.2.2.2.1.trans hRM.2.2.2.1.symm
  have hlet : ∀ i, i < sg.1 10 → ∃ j, j ≤ 255 ∧ u.2 9 i = nI j := fun i hi => by rw [hRM.2.2.2.1 i hi]; exact hIS.2.2.2.2.2.2.1 i hi
  have hin1 : vp_in (nI (i + 1)) L := vp_in_nI (by omega) (by omega)
  generalize ey1 : xs (nI (i + 1)).toNatClampNeg = y1
  have hin2 : vp_in (nI (i + 2)) L := vp_in_nI (by omega) (by omega)
  generalize ey2 : xs (nI (i + 2)).toNatClampNeg = y2
  refine lv_aload_n hx hb dL_law_806 rfl (lv_at hl 1 rfl) ?_
  refine lv_aload_n hx hb dL_law_807 rfl (lv_at hl 0 rfl) ?_
  refine lv_iload_n hx hb dL_law_808 rfl (lv_at hl 3 rfl) ?_
  refine lv_iconst (v := nI 1) hx hb dL_law_809 (by decide) ?_
  refine lv_iadd hx hb dL_law_810 ?_
  refine topE (y := nI (i + 1)) (nI_add i 1) ?_
  refine va_sld hx hb hX hbl hbA hS hin1 dL_law_811 ?_
  refine topE ey1 ?_
  refine lv_aload_n hx hb dL_law_812 rfl (lv_at hl 0 rfl) ?_
  refine lv_iload_n hx hb dL_law_813 rfl (lv_at hl 3 rfl) ?_
  refine lv_iconst (v := nI 2) hx hb dL_law_814 (by decide) ?_
  refine lv_iadd hx hb dL_law_815 ?_
  refine topE (y := nI (i + 2)) (nI_add i 2) ?_
  refine va_sld hx hb hX hbl hbA hS hin2 dL_law_816 ?_
  refine topE ey2 ?_
  refine cRl (w := xw G ax x wn wa w0 w1 rd wr z jj lt) (As := [.int y1, .int y2]) (rest := []) ⟨hx, hb, hml, hown, htl⟩ (mt_X4_getS l G ax x wn wa w0 w1 rd wr z jj lt sg zz y1 y2 hIS hRX) (cwV 2 htl gL_law_X4_get rfl rfl rfl ⟨rfl, hd_X4_get⟩ ⟨Nat.le_of_ble_eq_true rfl, Nat.le_of_ble_eq_true rfl⟩) hK hN (hP.sub [0, 1, 2, 3, 4, 5, 6, 7, 8, 9, 10, 11, 12, 13, 14, 15, 16, 17, 18, 19, 20, 21, 22, 23, 24, 25, 26, 27, 28, 29, 30, 31, 32, 33, 34, 35, 36, 37, 38, 39, 40, 41, 42, 43, 44, 45, 46, 47, 48, 49, 50, 51, 52, 53, 54] (lxf G ax am x wn wa w0 w1 rd wr z jj lt u lm sj)) 0 4 rfl rfl rfl hl.1 rfl (Nat.le_of_ble_eq_true rfl) ⟨Nat.le_of_ble_eq_true rfl, Nat.le_of_ble_eq_true rfl⟩ dL_law_817 (fun rX hwX => ?_)
  have hX2 := hwX
  refine lv_pop2_2 hx hb dL_law_820 rfl ?_
  refine lv_aload_n hx hb dL_law_821 rfl (lv_at hl 2 rfl) ?_
  refine lv_aload_n hx hb dL_law_822 rfl (lv_at hl 0 rfl) ?_
  refine lv_iload_n hx hb dL_law_823 rfl (lv_at hl 3 rfl) ?_
  refine lv_iconst (v := nI 1) hx hb dL_law_824 (by decide) ?_
  refine lv_iadd hx hb dL_law_825 ?_
  refine topE (y := nI (i + 1)) (nI_add i 1) ?_
  refine va_sld hx hb hX hbl hbA hS hin1 dL_law_826 ?_
  refine topE ey1 ?_
  refine lv_aload_n hx hb dL_law_827 rfl (lv_at hl 0 rfl) ?_
  refine lv_iload_n hx hb dL_law_828 rfl (lv_at hl 3 rfl) ?_
  refine lv_iconst (v := nI 2) hx hb dL_law_829 (by decide) ?_
  refine lv_iadd hx hb dL_law_830 ?_
  refine topE (y := nI (i + 2)) (nI_add i 2) ?_
  refine va_sld hx hb hX hbl hbA hS hin2 dL_law_831 ?_
  refine topE ey2 ?_
  refine cRl (w := mw G am u lm sj) (As := [.int y1, .int y2]) (rest := []) ⟨hx, hb, hml, hown, htl⟩ (mt_X5_getS l G am u lm sj sg zz y1 y2 Mh hMI hIS hRM) (cwV 2 htl gL_law_X5_get rfl rfl rfl ⟨rfl, hd_X5_get⟩ ⟨Nat.le_of_ble_eq_true rfl, Nat.le_of_ble_eq_true rfl⟩) hK hN (hP.sub [55, 56, 57, 58, 59, 60, 61, 62, 63, 64, 65, 66, 67, 68, 69, 70, 71, 72, 73, 74, 75, 76, 77, 78, 79, 80] (lmf G ax am x wn wa w0 w1 rd wr z jj lt u lm sj)) 0 5 rfl rfl rfl hl.1 rfl (Nat.le_of_ble_eq_true rfl) ⟨Nat.le_of_ble_eq_true rfl, Nat.le_of_ble_eq_true rfl⟩ dL_law_832 (fun rM hwM => ?_)
  have hM2 := hwM
  refine lv_pop2_2 hx hb dL_law_835 rfl ?_
  refine lv_goto (tgt := 1004) hx hb dL_law_836 (by decide) ?_
  exact kk x wn wa w0 w1 rd wr z jj lt u lm sj ⟨sg, zz, hIS, hRX, hRM⟩ _ _ ls hP hD hS hl
set_option maxHeartbeats 4000000 in
set_option maxRecDepth 100000 in
theorem lc_23 {p : Program} {l : Launch} {e : Env} {s : State} {m : MethodId} {below : List Frame} {meth : Method} {c : Code} {G : gG} {ax am : Nat → Nat} {b L : Nat} {xs : Nat → Int32} (C0 : lw_At p s m meth c b L xs) (hK : KK G s) (hN : NN s) (i : Nat) (hi : i + 5 ≤ L) (hL : L ≤ 2560) (kk : LKC p l e s m below meth c G ax am b i 1004) : LKC p l e s m below meth c G ax am b i 839 := by
  obtain ⟨hx, hb, hr, hml, hown, hts, hX, hbl, hlocks, hgv⟩ := C0
  have htl : ∀ w ∈ wsL_law, w.before #[Value.ref b] s = true := fun w h => hts w (wsL_law_in w h)
  have hown : s.vm.findClass RL = some m.cls := hown
  have hA : ∀ q : Nat, s.heap.size ≤ q → (fun q : Nat => s.heap.size ≤ q) q := fun _ h => h
  have hbA : ¬ (fun q : Nat => s.heap.size ≤ q) b := Nat.not_le.mpr hbl
  intro x wn wa w0 w1 rd wr z jj lt u lm sj hI H locs ls hP hD hS hl
  obtain ⟨sg, zz, hIS, hRX, hRM⟩ := hI
  obtain ⟨Mh, hMI⟩ := hRM.mix hIS
  have htx9 : rwE (rd.2 0) (u.2 9) (sg.1 10) := hRX.2.2.2.2.1.trans hRM.2.2.2.1.symm
  have hlet : ∀ i, i < sg.1 10 → ∃ j, j ≤ 255 ∧ u.2 9 i = nI j := fun i hi => by rw [hRM.2.2.2.1 i hi]; exact hIS.2.2.2.2.2.2.1 i hi
  have hin1 : vp_in (nI (i + 1)) L := vp_in_nI (by omega) (by omega)
  generalize ey1 : xs (nI (i + 1)).toNatClampNeg = y1
  have hin2 : vp_in (nI (i + 2)) L := vp_in_nI (by omega) (by omega)
  generalize ey2 : xs (nI (i + 2)).toNatClampNeg = y2
  have hin3 : vp_in (nI (i + 3)) L := vp_in_nI (by omega) (by omega)
  generalize ey3 : xs (nI (i + 3)).toNatClampNeg = y3
  refine lv_aload_n hx hb dL_law_839 rfl (lv_at hl 1 rfl) ?_
  refine lv_aload_n hx hb dL_law_840 rfl (lv_at hl 0 rfl) ?_
  refine lv_iload_n hx hb dL_law_841 rfl (lv_at hl 3 rfl) ?_
  refine lv_iconst (v := nI 1) hx hb dL_law_842 (by decide) ?_
  refine lv_iadd hx hb dL_law_843 ?_
  refine topE (y := nI (i + 1)) (nI_add i 1) ?_
  refine va_sld hx hb hX hbl hbA hS hin1 dL_law_844 ?_
  refine topE ey1 ?_
  refine cWi (As := [.int y1]) (rest := []) (S := oS × oS × oS × oS × oS × oS × oS × oS × (Nat → Nat → Int64) × Int64) (wa := LWd G ax am x wn wa w0 w1 rd wr z jj lt u lm sj) (wc := xw G ax x wn wa w0 w1 rd wr z jj lt) (w1 := fun v => xw G ax v.1 v.2.1 v.2.2.1 v.2.2.2.1 v.2.2.2.2.1 v.2.2.2.2.2.1 v.2.2.2.2.2.2.1 v.2.2.2.2.2.2.2.1 v.2.2.2.2.2.2.2.2.1 v.2.2.2.2.2.2.2.2.2) (wa' := fun v => LWd G ax am v.1 v.2.1 v.2.2.1 v.2.2.2.1 v.2.2.2.2.1 v.2.2.2.2.2.1 v.2.2.2.2.2.2.1 v.2.2.2.2.2.2.2.1 v.2.2.2.2.2.2.2.2.1 v.2.2.2.2.2.2.2.2.2 u lm sj) ⟨hx, hb, hml, hown, htl⟩ (mt_X4_dropS l G ax _ x wn wa w0 w1 rd wr z jj lt sg zz y1 hIS hRX) (cwV 1 htl gL_law_X4_drop rfl rfl rfl ⟨rfl, hd_X4_drop⟩ ⟨Nat.le_of_ble_eq_true rfl, Nat.le_of_ble_eq_true rfl⟩) hK hN hP hD hS hA [0, 1, 2, 3, 4, 5, 6, 7, 8, 9, 10, 11, 12, 13, 14, 15, 16, 17, 18, 19, 20, 21, 22, 23, 24, 25, 26, 27, 28, 29, 30, 31, 32, 33, 34, 35, 36, 37, 38, 39, 40, 41, 42, 43, 44, 45, 46, 47, 48, 49, 50, 51, 52, 53, 54] (lxc G ax am x wn wa w0 w1 rd wr z jj lt u lm sj) (by decide) (lxf G ax am x wn wa w0 w1 rd wr z jj lt u lm sj) (fun v => lxl G ax am x wn wa w0 w1 rd wr z jj lt u lm sj v) (fun v => lxo G ax am x wn wa w0 w1 rd wr z jj lt u lm sj v) (fun v => lxm G ax am x wn wa w0 w1 rd wr z jj lt u lm sj v) 0 4 rfl rfl rfl hl.1 rfl (Nat.le_of_ble_eq_true rfl) ⟨Nat.le_of_ble_eq_true rfl, Nat.le_of_ble_eq_true rfl⟩ dL_law_845 (fun rX vX H locs hwX hP hD hS => ?_)
  obtain ⟨x1, wn1, wa1, w01, w11, rd1, wr1, z1, jj1, lt1⟩ := vX
  obtain ⟨hX1, hX2⟩ := hwX
  have hX1 : RepX x1 wn1 wa1 w01 w11 rd1 z1 jj1 (droF sg y1) (zz) := hX1
  have hP : PP G (LWd G ax am x1 wn1 wa1 w01 w11 rd1 wr1 z1 jj1 lt1 u lm sj) H := hP
  have hD : va_D (fun q : Nat => s.heap.size ≤ q) (LWd G ax am x1 wn1 wa1 w01 w11 rd1 wr1 z1 jj1 lt1 u lm sj) := hD
  refine lv_aload_n hx hb dL_law_848 rfl (lv_at hl 2 rfl) ?_
  refine lv_aload_n hx hb dL_law_849 rfl (lv_at hl 0 rfl) ?_
  refine lv_iload_n hx hb dL_law_850 rfl (lv_at hl 3 rfl) ?_
  refine lv_iconst (v := nI 1) hx hb dL_law_851 (by decide) ?_
  refine lv_iadd hx hb dL_law_852 ?_
  refine topE (y := nI (i + 1)) (nI_add i 1) ?_
  refine va_sld hx hb hX hbl hbA hS hin1 dL_law_853 ?_
  refine topE ey1 ?_
  refine cWi (As := [.int y1]) (rest := [.int rX]) (S := oS × Int64 × (Nat → Int64)) (wa := LWd G ax am x1 wn1 wa1 w01 w11 rd1 wr1 z1 jj1 lt1 u lm sj) (wc := mw G am u lm sj) (w1 := fun v => mw G am v.1 v.2.1 v.2.2) (wa' := fun v => LWd G ax am x1 wn1 wa1 w01 w11 rd1 wr1 z1 jj1 lt1 v.1 v.2.1 v.2.2) ⟨hx, hb, hml, hown, htl⟩ (mt_X5_dropS l G am _ u lm sj sg zz y1 Mh hMI hIS hRM) (cwV 1 htl gL_law_X5_drop rfl rfl rfl ⟨rfl, hd_X5_drop⟩ ⟨Nat.le_of_ble_eq_true rfl, Nat.le_of_ble_eq_true rfl⟩) hK hN hP hD hS hA [55, 56, 57, 58, 59, 60, 61, 62, 63, 64, 65, 66, 67, 68, 69, 70, 71, 72, 73, 74, 75, 76, 77, 78, 79, 80] (lmc G ax am x1 wn1 wa1 w01 w11 rd1 wr1 z1 jj1 lt1 u lm sj) (by decide) (lmf G ax am x1 wn1 wa1 w01 w11 rd1 wr1 z1 jj1 lt1 u lm sj) (fun v => lml G ax am x1 wn1 wa1 w01 w11 rd1 wr1 z1 jj1 lt1 u lm sj v) (fun v => lmo G ax am x1 wn1 wa1 w01 w11 rd1 wr1 z1 jj1 lt1 u lm sj v) (fun v => lmm G ax am x1 wn1 wa1 w01 w11 rd1 wr1 z1 jj1 lt1 u lm sj v) 0 5 rfl rfl rfl hl.1 rfl (Nat.le_of_ble_eq_true rfl) ⟨Nat.le_of_ble_eq_true rfl, Nat.le_of_ble_eq_true rfl⟩ dL_law_854 (fun rM vM H locs hwM hP hD hS => ?_)
  obtain ⟨u1, lm1, sj1⟩ := vM
  obtain ⟨hM1, hM2⟩ := hwM
  have hM1 : RepM u1 sj1 (droF sg y1) (zz) := hM1
  have hP : PP G (LWd G ax am x1 wn1 wa1 w01 w11 rd1 wr1 z1 jj1 lt1 u1 lm1 sj1) H := hP
  have hD : va_D (fun q : Nat => s.heap.size ≤ q) (LWd G ax am x1 wn1 wa1 w01 w11 rd1 wr1 z1 jj1 lt1 u1 lm1 sj1) := hD
  refine lv_icmp_eq (tgt := 1004) hx hb dL_law_857 (by decide) (fun _ => ?_) (fun c9 => absurd (hX2.trans hM2.symm) c9)
  exact kk x1 wn1 wa1 w01 w11 rd1 wr1 z1 jj1 lt1 u1 lm1 sj1 ⟨droF sg y1, zz, IS_droF hIS, hX1, hM1⟩ _ _ ls hP hD hS hl
set_option maxHeartbeats 4000000 in
set_option maxRecDepth 100000 in
theorem lc_24 {p : Program} {l : Launch} {e : Env} {s : State} {m : MethodId} {below : List Frame} {meth : Method} {c : Code} {G : gG} {ax am : Nat → Nat} {b L : Nat} {xs : Nat → Int32} (C0 : lw_At p s m meth c b L xs) (hK : KK G s) (hN : NN s) (i : Nat) (hi : i + 5 ≤ L) (hL : L ≤ 2560) (kk : LKC p l e s m below meth c G ax am b i 1004) : LKC p l e s m below meth c G ax am b i 862 := by
  obtain ⟨hx, hb, hr, hml, hown, hts, hX, hbl, hlocks, hgv⟩ := C0
  have htl : ∀ w ∈ wsL_law, w.before #[Value.ref b] s = true := fun w h => hts w (wsL_law_in w h)
  have hown : s.vm.findClass RL = some m.cls := hown
  have hA : ∀ q : Nat, s.heap.size ≤ q → (fun q : Nat => s.heap.size ≤ q) q := fun _ h => h
  have hbA : ¬ (fun q : Nat => s.heap.size ≤ q) b := Nat.not_le.mpr hbl
  intro x wn wa w0 w1 rd wr z jj lt u lm sj hI H locs ls hP hD hS hl
  obtain ⟨sg, zz, hIS, hRX, hRM⟩ := hI
  obtain ⟨Mh, hMI⟩ := hRM.mix hIS
  have htx9 : rwE (rd.2 0) (u.2 9) (sg.1 10) := hRX.2.2.2.2.1.trans hRM.2.2.2.1.symm
  have hlet : ∀ i, i < sg.1 10 → ∃ j, j ≤ 255 ∧ u.2 9 i = nI j := fun i hi => by rw [hRM.2.2.2.1 i hi]; exact hIS.2.2.2.2.2.2.1 i hi
  have hin1 : vp_in (nI (i + 1)) L := vp_in_nI (by omega) (by omega)
  generalize ey1 : xs (nI (i + 1)).toNatClampNeg = y1
  have hin2 : vp_in (nI (i + 2)) L := vp_in_nI (by omega) (by omega)
  generalize ey2 : xs (nI (i + 2)).toNatClampNeg = y2
  have hin3 : vp_in (nI (i + 3)) L := vp_in_nI (by omega) (by omega)
  generalize ey3 : xs (nI (i + 3)).toNatClampNeg = y3
  refine lv_aload_n hx hb dL_law_862 rfl (lv_at hl 1 rfl) ?_
  refine lv_aload_n hx hb dL_law_863 rfl (lv_at hl 0 rfl) ?_
  refine lv_iload_n hx hb dL_law_864 rfl (lv_at hl 3 rfl) ?_
  refine lv_iconst (v := nI 1) hx hb dL_law_865 (by decide) ?_
  refine lv_iadd hx hb dL_law_866 ?_
  refine topE (y := nI (i + 1)) (nI_add i 1) ?_
  refine va_sld hx hb hX hbl hbA hS hin1 dL_law_867 ?_
  refine topE ey1 ?_
  refine lv_aload_n hx hb dL_law_868 rfl (lv_at hl 0 rfl) ?_
  refine lv_iload_n hx hb dL_law_869 rfl (lv_at hl 3 rfl) ?_
  refine lv_iconst (v := nI 2) hx hb dL_law_870 (by decide) ?_
  refine lv_iadd hx hb dL_law_871 ?_
  refine topE (y := nI (i + 2)) (nI_add i 2) ?_
  refine va_sld hx hb hX hbl hbA hS hin2 dL_law_872 ?_
  refine topE ey2 ?_
  refine lv_aload_n hx hb dL_law_873 rfl (lv_at hl 0 rfl) ?_
  refine lv_iload_n hx hb dL_law_874 rfl (lv_at hl 3 rfl) ?_
  refine lv_iconst (v := nI 3) hx hb dL_law_875 (by decide) ?_
  refine lv_iadd hx hb dL_law_876 ?_
  refine topE (y := nI (i + 3)) (nI_add i 3) ?_
  refine va_sld hx hb hX hbl hbA hS hin3 dL_law_877 ?_
  refine topE ey3 ?_
  refine cWi (As := [.int y1, .int y2, .int y3]) (rest := []) (S := oS × oS × oS × oS × oS × oS × oS × oS × (Nat → Nat → Int64) × Int64) (wa := LWd G ax am x wn wa w0 w1 rd wr z jj lt u lm sj) (wc := xw G ax x wn wa w0 w1 rd wr z jj lt) (w1 := fun v => xw G ax v.1 v.2.1 v.2.2.1 v.2.2.2.1 v.2.2.2.2.1 v.2.2.2.2.2.1 v.2.2.2.2.2.2.1 v.2.2.2.2.2.2.2.1 v.2.2.2.2.2.2.2.2.1 v.2.2.2.2.2.2.2.2.2) (wa' := fun v => LWd G ax am v.1 v.2.1 v.2.2.1 v.2.2.2.1 v.2.2.2.2.1 v.2.2.2.2.2.1 v.2.2.2.2.2.2.1 v.2.2.2.2.2.2.2.1 v.2.2.2.2.2.2.2.2.1 v.2.2.2.2.2.2.2.2.2 u lm sj) ⟨hx, hb, hml, hown, htl⟩ (mt_X4_filmS l G ax _ x wn wa w0 w1 rd wr z jj lt sg zz y1 y2 y3 hIS hRX) (cwV 3 htl gL_law_X4_film rfl rfl rfl ⟨rfl, hd_X4_film⟩ ⟨Nat.le_of_ble_eq_true rfl, Nat.le_of_ble_eq_true rfl⟩) hK hN hP hD hS hA [0, 1, 2, 3, 4, 5, 6, 7, 8, 9, 10, 11, 12, 13, 14, 15, 16, 17, 18, 19, 20, 21, 22, 23, 24, 25, 26, 27, 28, 29, 30, 31, 32, 33, 34, 35, 36, 37, 38, 39, 40, 41, 42, 43, 44, 45, 46, 47, 48, 49, 50, 51, 52, 53, 54] (lxc G ax am x wn wa w0 w1 rd wr z jj lt u lm sj) (by decide) (lxf G ax am x wn wa w0 w1 rd wr z jj lt u lm sj) (fun v => lxl G ax am x wn wa w0 w1 rd wr z jj lt u lm sj v) (fun v => lxo G ax am x wn wa w0 w1 rd wr z jj lt u lm sj v) (fun v => lxm G ax am x wn wa w0 w1 rd wr z jj lt u lm sj v) 0 4 rfl rfl rfl hl.1 rfl (Nat.le_of_ble_eq_true rfl) ⟨Nat.le_of_ble_eq_true rfl, Nat.le_of_ble_eq_true rfl⟩ dL_law_878 (fun rX vX H locs hwX hP hD hS => ?_)
  obtain ⟨x1, wn1, wa1, w01, w11, rd1, wr1, z1, jj1, lt1⟩ := vX
  obtain ⟨hX1, hX2⟩ := hwX
  have hX1 : RepX x1 wn1 wa1 w01 w11 rd1 z1 jj1 (sg) (filZ sg zz y1 y2 y3) := hX1
  have hP : PP G (LWd G ax am x1 wn1 wa1 w01 w11 rd1 wr1 z1 jj1 lt1 u lm sj) H := hP
  have hD : va_D (fun q : Nat => s.heap.size ≤ q) (LWd G ax am x1 wn1 wa1 w01 w11 rd1 wr1 z1 jj1 lt1 u lm sj) := hD
  refine lv_pop hx hb dL_law_881 rfl ?_
  refine lv_aload_n hx hb dL_law_882 rfl (lv_at hl 2 rfl) ?_
  refine lv_aload_n hx hb dL_law_883 rfl (lv_at hl 0 rfl) ?_
  refine lv_iload_n hx hb dL_law_884 rfl (lv_at hl 3 rfl) ?_
  refine lv_iconst (v := nI 1) hx hb dL_law_885 (by decide) ?_
  refine lv_iadd hx hb dL_law_886 ?_
  refine topE (y := nI (i + 1)) (nI_add i 1) ?_
  refine va_sld hx hb hX hbl hbA hS hin1 dL_law_887 ?_
  refine topE ey1 ?_
  refine lv_aload_n hx hb dL_law_888 rfl (lv_at hl 0 rfl) ?_
  refine lv_iload_n hx hb dL_law_889 rfl (lv_at hl 3 rfl) ?_
  refine lv_iconst (v := nI 2) hx hb dL_law_890 (by decide) ?_
  refine lv_iadd hx hb dL_law_891 ?_
  refine topE (y := nI (i + 2)) (nI_add i 2) ?_
  refine va_sld hx hb hX hbl hbA hS hin2 dL_law_892 ?_
  refine topE ey2 ?_
  refine lv_aload_n hx hb dL_law_893 rfl (lv_at hl 0 rfl) ?_
  refine lv_iload_n hx hb dL_law_894 rfl (lv_at hl 3 rfl) ?_
  refine lv_iconst (v := nI 3) hx hb dL_law_895 (by decide) ?_
  refine lv_iadd hx hb dL_law_896 ?_
  refine topE (y := nI (i + 3)) (nI_add i 3) ?_
  refine va_sld hx hb hX hbl hbA hS hin3 dL_law_897 ?_
  refine topE ey3 ?_
  refine cWi (As := [.int y1, .int y2, .int y3]) (rest := []) (S := oS × Int64 × (Nat → Int64)) (wa := LWd G ax am x1 wn1 wa1 w01 w11 rd1 wr1 z1 jj1 lt1 u lm sj) (wc := mw G am u lm sj) (w1 := fun v => mw G am v.1 v.2.1 v.2.2) (wa' := fun v => LWd G ax am x1 wn1 wa1 w01 w11 rd1 wr1 z1 jj1 lt1 v.1 v.2.1 v.2.2) ⟨hx, hb, hml, hown, htl⟩ (mt_X5_filmS l G am _ u lm sj sg zz y1 y2 y3 Mh hMI hIS hRM) (cwV 3 htl gL_law_X5_film rfl rfl rfl ⟨rfl, hd_X5_film⟩ ⟨Nat.le_of_ble_eq_true rfl, Nat.le_of_ble_eq_true rfl⟩) hK hN hP hD hS hA [55, 56, 57, 58, 59, 60, 61, 62, 63, 64, 65, 66, 67, 68, 69, 70, 71, 72, 73, 74, 75, 76, 77, 78, 79, 80] (lmc G ax am x1 wn1 wa1 w01 w11 rd1 wr1 z1 jj1 lt1 u lm sj) (by decide) (lmf G ax am x1 wn1 wa1 w01 w11 rd1 wr1 z1 jj1 lt1 u lm sj) (fun v => lml G ax am x1 wn1 wa1 w01 w11 rd1 wr1 z1 jj1 lt1 u lm sj v) (fun v => lmo G ax am x1 wn1 wa1 w01 w11 rd1 wr1 z1 jj1 lt1 u lm sj v) (fun v => lmm G ax am x1 wn1 wa1 w01 w11 rd1 wr1 z1 jj1 lt1 u lm sj v) 0 5 rfl rfl rfl hl.1 rfl (Nat.le_of_ble_eq_true rfl) ⟨Nat.le_of_ble_eq_true rfl, Nat.le_of_ble_eq_true rfl⟩ dL_law_898 (fun rM vM H locs hwM hP hD hS => ?_)
  obtain ⟨u1, lm1, sj1⟩ := vM
  obtain ⟨hM1, hM2⟩ := hwM
  have hM1 : RepM u1 sj1 (sg) (filZ sg zz y1 y2 y3) := hM1
  have hP : PP G (LWd G ax am x1 wn1 wa1 w01 w11 rd1 wr1 z1 jj1 lt1 u1 lm1 sj1) H := hP
  have hD : va_D (fun q : Nat => s.heap.size ≤ q) (LWd G ax am x1 wn1 wa1 w01 w11 rd1 wr1 z1 jj1 lt1 u1 lm1 sj1) := hD
  refine lv_pop hx hb dL_law_901 rfl ?_
  refine lv_goto (tgt := 1004) hx hb dL_law_902 (by decide) ?_
  exact kk x1 wn1 wa1 w01 w11 rd1 wr1 z1 jj1 lt1 u1 lm1 sj1 ⟨sg, filZ sg zz y1 y2 y3, hIS, hX1, hM1⟩ _ _ ls hP hD hS hl
set_option maxHeartbeats 4000000 in
set_option maxRecDepth 100000 in
theorem lc_25 {p : Program} {l : Launch} {e : Env} {s : State} {m : MethodId} {below : List Frame} {meth : Method} {c : Code} {G : gG} {ax am : Nat → Nat} {b L : Nat} {xs : Nat → Int32} (C0 : lw_At p s m meth c b L xs) (hK : KK G s) (hN : NN s) (i : Nat) (hi : i + 5 ≤ L) (hL : L ≤ 2560) (kk : LKC p l e s m below meth c G ax am b i 1004) : LKC p l e s m below meth c G ax am b i 905 := by
  obtain ⟨hx, hb, hr, hml, hown, hts, hX, hbl, hlocks, hgv⟩ := C0
  have htl : ∀ w ∈ wsL_law, w.before #[Value.ref b] s = true := fun w h => hts w (wsL_law_in w h)
  have hown : s.vm.findClass RL = some m.cls := hown
  have hA : ∀ q : Nat, s.heap.size ≤ q → (fun q : Nat => s.heap.size ≤ q) q := fun _ h => h
  have hbA : ¬ (fun q : Nat => s.heap.size ≤ q) b := Nat.not_le.mpr hbl
  intro x wn wa w0 w1 rd wr z jj lt u lm sj hI H locs ls hP hD hS hl
  obtain ⟨sg, zz, hIS, hRX, hRM⟩ := hI
  obtain ⟨Mh, hMI⟩ := hRM.mix hIS
  have htx9 : rwE (rd.2 0) (u.2 9) (sg.1 10) := hRX.2.2.2.2.1.trans hRM.2.2.2.1.symm
  have hlet : ∀ i, i < sg.1 10 → ∃ j, j ≤ 255 ∧ u.2 9 i = nI j := fun i hi => by rw [hRM.2.2.2.1 i hi]; exact hIS.2.2.2.2.2.2.1 i hi
  have hin1 : vp_in (nI (i + 1)) L := vp_in_nI (by omega) (by omega)
  generalize ey1 : xs (nI (i + 1)).toNatClampNeg = y1
  have hin2 : vp_in (nI (i + 2)) L := vp_in_nI (by omega) (by omega)
  generalize ey2 : xs (nI (i + 2)).toNatClampNeg = y2
  have hin3 : vp_in (nI (i + 3)) L := vp_in_nI (by omega) (by omega)
  generalize ey3 : xs (nI (i + 3)).toNatClampNeg = y3
  have hin4 : vp_in (nI (i + 4)) L := vp_in_nI (by omega) (by omega)
  generalize ey4 : xs (nI (i + 4)).toNatClampNeg = y4
  refine lv_aload_n hx hb dL_law_905 rfl (lv_at hl 1 rfl) ?_
  refine lv_aload_n hx hb dL_law_906 rfl (lv_at hl 0 rfl) ?_
  refine lv_iload_n hx hb dL_law_907 rfl (lv_at hl 3 rfl) ?_
  refine lv_iconst (v := nI 1) hx hb dL_law_908 (by decide) ?_
  refine lv_iadd hx hb dL_law_909 ?_
  refine topE (y := nI (i + 1)) (nI_add i 1) ?_
  refine va_sld hx hb hX hbl hbA hS hin1 dL_law_910 ?_
  refine topE ey1 ?_
  refine lv_aload_n hx hb dL_law_911 rfl (lv_at hl 0 rfl) ?_
  refine lv_iload_n hx hb dL_law_912 rfl (lv_at hl 3 rfl) ?_
  refine lv_iconst (v := nI 2) hx hb dL_law_913 (by decide) ?_
  refine lv_iadd hx hb dL_law_914 ?_
  refine topE (y := nI (i + 2)) (nI_add i 2) ?_
  refine va_sld hx hb hX hbl hbA hS hin2 dL_law_915 ?_
  refine topE ey2 ?_
  refine lv_aload_n hx hb dL_law_916 rfl (lv_at hl 0 rfl) ?_
  refine lv_iload_n hx hb dL_law_917 rfl (lv_at hl 3 rfl) ?_
  refine lv_iconst (v := nI 3) hx hb dL_law_918 (by decide) ?_
  refine lv_iadd hx hb dL_law_919 ?_
  refine topE (y := nI (i + 3)) (nI_add i 3) ?_
  refine va_sld hx hb hX hbl hbA hS hin3 dL_law_920 ?_
  refine topE ey3 ?_
  refine lv_aload_n hx hb dL_law_921 rfl (lv_at hl 0 rfl) ?_
  refine lv_iload_n hx hb dL_law_922 rfl (lv_at hl 3 rfl) ?_
  refine lv_iconst (v := nI 4) hx hb dL_law_923 (by decide) ?_
  refine lv_iadd hx hb dL_law_924 ?_
  refine topE (y := nI (i + 4)) (nI_add i 4) ?_
  refine va_sld hx hb hX hbl hbA hS hin4 dL_law_925 ?_
  refine topE ey4 ?_
  refine cRi (w := xw G ax x wn wa w0 w1 rd wr z jj lt) (As := [.int y1, .int y2, .int y3, .int y4]) (rest := []) ⟨hx, hb, hml, hown, htl⟩ (mt_X4_isFilmS l G ax x wn wa w0 w1 rd wr z jj lt sg zz y1 y2 y3 y4 hIS hRX) (cwV 4 htl gL_law_X4_isFilm rfl rfl rfl ⟨rfl, hd_X4_isFilm⟩ ⟨Nat.le_of_ble_eq_true rfl, Nat.le_of_ble_eq_true rfl⟩) hK hN (hP.sub [0, 1, 2, 3, 4, 5, 6, 7, 8, 9, 10, 11, 12, 13, 14, 15, 16, 17, 18, 19, 20, 21, 22, 23, 24, 25, 26, 27, 28, 29, 30, 31, 32, 33, 34, 35, 36, 37, 38, 39, 40, 41, 42, 43, 44, 45, 46, 47, 48, 49, 50, 51, 52, 53, 54] (lxf G ax am x wn wa w0 w1 rd wr z jj lt u lm sj)) 0 4 rfl rfl rfl hl.1 rfl (Nat.le_of_ble_eq_true rfl) ⟨Nat.le_of_ble_eq_true rfl, Nat.le_of_ble_eq_true rfl⟩ dL_law_926 (fun rX hwX => ?_)
  have hX2 := hwX
  refine lv_pop hx hb dL_law_929 rfl ?_
  refine lv_aload_n hx hb dL_law_930 rfl (lv_at hl 2 rfl) ?_
  refine lv_aload_n hx hb dL_law_931 rfl (lv_at hl 0 rfl) ?_
  refine lv_iload_n hx hb dL_law_932 rfl (lv_at hl 3 rfl) ?_
  refine lv_iconst (v := nI 1) hx hb dL_law_933 (by decide) ?_
  refine lv_iadd hx hb dL_law_934 ?_
  refine topE (y := nI (i + 1)) (nI_add i 1) ?_
  refine va_sld hx hb hX hbl hbA hS hin1 dL_law_935 ?_
  refine topE ey1 ?_
  refine lv_aload_n hx hb dL_law_936 rfl (lv_at hl 0 rfl) ?_
  refine lv_iload_n hx hb dL_law_937 rfl (lv_at hl 3 rfl) ?_
  refine lv_iconst (v := nI 2) hx hb dL_law_938 (by decide) ?_
  refine lv_iadd hx hb dL_law_939 ?_
  refine topE (y := nI (i + 2)) (nI_add i 2) ?_
  refine va_sld hx hb hX hbl hbA hS hin2 dL_law_940 ?_
  refine topE ey2 ?_
  refine lv_aload_n hx hb dL_law_941 rfl (lv_at hl 0 rfl) ?_
  refine lv_iload_n hx hb dL_law_942 rfl (lv_at hl 3 rfl) ?_
  refine lv_iconst (v := nI 3) hx hb dL_law_943 (by decide) ?_
  refine lv_iadd hx hb dL_law_944 ?_
  refine topE (y := nI (i + 3)) (nI_add i 3) ?_
  refine va_sld hx hb hX hbl hbA hS hin3 dL_law_945 ?_
  refine topE ey3 ?_
  refine lv_aload_n hx hb dL_law_946 rfl (lv_at hl 0 rfl) ?_
  refine lv_iload_n hx hb dL_law_947 rfl (lv_at hl 3 rfl) ?_
  refine lv_iconst (v := nI 4) hx hb dL_law_948 (by decide) ?_
  refine lv_iadd hx hb dL_law_949 ?_
  refine topE (y := nI (i + 4)) (nI_add i 4) ?_
  refine va_sld hx hb hX hbl hbA hS hin4 dL_law_950 ?_
  refine topE ey4 ?_
  refine cWi (As := [.int y1, .int y2, .int y3, .int y4]) (rest := []) (S := oS × Int64 × (Nat → Int64)) (wa := LWd G ax am x wn wa w0 w1 rd wr z jj lt u lm sj) (wc := mw G am u lm sj) (w1 := fun v => mw G am v.1 v.2.1 v.2.2) (wa' := fun v => LWd G ax am x wn wa w0 w1 rd wr z jj lt v.1 v.2.1 v.2.2) ⟨hx, hb, hml, hown, htl⟩ (mt_X5_isFilmS l G am _ u lm sj sg zz y1 y2 y3 y4 Mh hMI hIS hRM) (cwV 4 htl gL_law_X5_isFilm rfl rfl rfl ⟨rfl, hd_X5_isFilm⟩ ⟨Nat.le_of_ble_eq_true rfl, Nat.le_of_ble_eq_true rfl⟩) hK hN hP hD hS hA [55, 56, 57, 58, 59, 60, 61, 62, 63, 64, 65, 66, 67, 68, 69, 70, 71, 72, 73, 74, 75, 76, 77, 78, 79, 80] (lmc G ax am x wn wa w0 w1 rd wr z jj lt u lm sj) (by decide) (lmf G ax am x wn wa w0 w1 rd wr z jj lt u lm sj) (fun v => lml G ax am x wn wa w0 w1 rd wr z jj lt u lm sj v) (fun v => lmo G ax am x wn wa w0 w1 rd wr z jj lt u lm sj v) (fun v => lmm G ax am x wn wa w0 w1 rd wr z jj lt u lm sj v) 0 5 rfl rfl rfl hl.1 rfl (Nat.le_of_ble_eq_true rfl) ⟨Nat.le_of_ble_eq_true rfl, Nat.le_of_ble_eq_true rfl⟩ dL_law_951 (fun rM vM H locs hwM hP hD hS => ?_)
  obtain ⟨u1, lm1, sj1⟩ := vM
  obtain ⟨hM1, hM2⟩ := hwM
  have hM1 : RepM u1 sj1 (sg) (zz) := hM1
  have hP : PP G (LWd G ax am x wn wa w0 w1 rd wr z jj lt u1 lm1 sj1) H := hP
  have hD : va_D (fun q : Nat => s.heap.size ≤ q) (LWd G ax am x wn wa w0 w1 rd wr z jj lt u1 lm1 sj1) := hD
  refine lv_pop hx hb dL_law_954 rfl ?_
  refine lv_goto (tgt := 1004) hx hb dL_law_955 (by decide) ?_
  exact kk x wn wa w0 w1 rd wr z jj lt u1 lm1 sj1 ⟨sg, zz, hIS, hRX, hM1⟩ _ _ ls hP hD hS hl
set_option maxHeartbeats 4000000 in
set_option maxRecDepth 100000 in
theorem lc_26 {p : Program} {l : Launch} {e : Env} {s : State} {m : MethodId} {below : List Frame} {meth : Method} {c : Code} {G : gG} {ax am : Nat → Nat} {b L : Nat} {xs : Nat → Int32} (C0 : lw_At p s m meth c b L xs) (hK : KK G s) (hN : NN s) (i : Nat) (hi : i + 5 ≤ L) (hL : L ≤ 2560) (kk : LKC p l e s m below meth c G ax am b i 1004) : LKC p l e s m below meth c G ax am b i 958 := by
  obtain ⟨hx, hb, hr, hml, hown, hts, hX, hbl, hlocks, hgv⟩ := C0
  have htl : ∀ w ∈ wsL_law, w.before #[Value.ref b] s = true := fun w h => hts w (wsL_law_in w h)
  have hown : s.vm.findClass RL = some m.cls := hown
  have hA : ∀ q : Nat, s.heap.size ≤ q → (fun q : Nat => s.heap.size ≤ q) q := fun _ h => h
  have hbA : ¬ (fun q : Nat => s.heap.size ≤ q) b := Nat.not_le.mpr hbl
  intro x wn wa w0 w1 rd wr z jj lt u lm sj hI H locs ls hP hD hS hl
  obtain ⟨sg, zz, hIS, hRX, hRM⟩ := hI
  obtain ⟨Mh, hMI⟩ := hRM.mix hIS
  have htx9 : rwE (rd.2 0) (u.2 9) (sg.1 10) := hRX.2.2.2.2.1.trans hRM.2.2.2.1.symm
  have hlet : ∀ i, i < sg.1 10 → ∃ j, j ≤ 255 ∧ u.2 9 i = nI j := fun i hi => by rw [hRM.2.2.2.1 i hi]; exact hIS.2.2.2.2.2.2.1 i hi
  have hin1 : vp_in (nI (i + 1)) L := vp_in_nI (by omega) (by omega)
  generalize ey1 : xs (nI (i + 1)).toNatClampNeg = y1
  refine lv_aload_n hx hb dL_law_958 rfl (lv_at hl 1 rfl) ?_
  refine lv_aload_n hx hb dL_law_959 rfl (lv_at hl 0 rfl) ?_
  refine lv_iload_n hx hb dL_law_960 rfl (lv_at hl 3 rfl) ?_
  refine lv_iconst (v := nI 1) hx hb dL_law_961 (by decide) ?_
  refine lv_iadd hx hb dL_law_962 ?_
  refine topE (y := nI (i + 1)) (nI_add i 1) ?_
  refine va_sld hx hb hX hbl hbA hS hin1 dL_law_963 ?_
  refine topE ey1 ?_
  refine cWi (As := [.int y1]) (rest := []) (S := oS × oS × oS × oS × oS × oS × oS × oS × (Nat → Nat → Int64) × Int64) (wa := LWd G ax am x wn wa w0 w1 rd wr z jj lt u lm sj) (wc := xw G ax x wn wa w0 w1 rd wr z jj lt) (w1 := fun v => xw G ax v.1 v.2.1 v.2.2.1 v.2.2.2.1 v.2.2.2.2.1 v.2.2.2.2.2.1 v.2.2.2.2.2.2.1 v.2.2.2.2.2.2.2.1 v.2.2.2.2.2.2.2.2.1 v.2.2.2.2.2.2.2.2.2) (wa' := fun v => LWd G ax am v.1 v.2.1 v.2.2.1 v.2.2.2.1 v.2.2.2.2.1 v.2.2.2.2.2.1 v.2.2.2.2.2.2.1 v.2.2.2.2.2.2.2.1 v.2.2.2.2.2.2.2.2.1 v.2.2.2.2.2.2.2.2.2 u lm sj) ⟨hx, hb, hml, hown, htl⟩ (mt_X4_keepS l G ax _ x wn wa w0 w1 rd wr z jj lt sg zz y1 hIS hRX) (cwV 1 htl gL_law_X4_keep rfl rfl rfl ⟨rfl, hd_X4_keep⟩ ⟨Nat.le_of_ble_eq_true rfl, Nat.le_of_ble_eq_true rfl⟩) hK hN hP hD hS hA [0, 1, 2, 3, 4, 5, 6, 7, 8, 9, 10, 11, 12, 13, 14, 15, 16, 17, 18, 19, 20, 21, 22, 23, 24, 25, 26, 27, 28, 29, 30, 31, 32, 33, 34, 35, 36, 37, 38, 39, 40, 41, 42, 43, 44, 45, 46, 47, 48, 49, 50, 51, 52, 53, 54] (lxc G ax am x wn wa w0 w1 rd wr z jj lt u lm sj) (by decide) (lxf G ax am x wn wa w0 w1 rd wr z jj lt u lm sj) (fun v => lxl G ax am x wn wa w0 w1 rd wr z jj lt u lm sj v) (fun v => lxo G ax am x wn wa w0 w1 rd wr z jj lt u lm sj v) (fun v => lxm G ax am x wn wa w0 w1 rd wr z jj lt u lm sj v) 0 4 rfl rfl rfl hl.1 rfl (Nat.le_of_ble_eq_true rfl) ⟨Nat.le_of_ble_eq_true rfl, Nat.le_of_ble_eq_true rfl⟩ dL_law_964 (fun rX vX H locs hwX hP hD hS => ?_)
  obtain ⟨x1, wn1, wa1, w01, w11, rd1, wr1, z1, jj1, lt1⟩ := vX
  obtain ⟨hX1, hX2⟩ := hwX
  have hX1 : RepX x1 wn1 wa1 w01 w11 rd1 z1 jj1 (keeF sg y1) (zz) := hX1
  have hP : PP G (LWd G ax am x1 wn1 wa1 w01 w11 rd1 wr1 z1 jj1 lt1 u lm sj) H := hP
  have hD : va_D (fun q : Nat => s.heap.size ≤ q) (LWd G ax am x1 wn1 wa1 w01 w11 rd1 wr1 z1 jj1 lt1 u lm sj) := hD
  refine lv_pop hx hb dL_law_967 rfl ?_
  refine lv_aload_n hx hb dL_law_968 rfl (lv_at hl 2 rfl) ?_
  refine lv_aload_n hx hb dL_law_969 rfl (lv_at hl 0 rfl) ?_
  refine lv_iload_n hx hb dL_law_970 rfl (lv_at hl 3 rfl) ?_
  refine lv_iconst (v := nI 1) hx hb dL_law_971 (by decide) ?_
  refine lv_iadd hx hb dL_law_972 ?_
  refine topE (y := nI (i + 1)) (nI_add i 1) ?_
  refine va_sld hx hb hX hbl hbA hS hin1 dL_law_973 ?_
  refine topE ey1 ?_
  refine cWi (As := [.int y1]) (rest := []) (S := oS × Int64 × (Nat → Int64)) (wa := LWd G ax am x1 wn1 wa1 w01 w11 rd1 wr1 z1 jj1 lt1 u lm sj) (wc := mw G am u lm sj) (w1 := fun v => mw G am v.1 v.2.1 v.2.2) (wa' := fun v => LWd G ax am x1 wn1 wa1 w01 w11 rd1 wr1 z1 jj1 lt1 v.1 v.2.1 v.2.2) ⟨hx, hb, hml, hown, htl⟩ (mt_X5_keepS l G am _ u lm sj sg zz y1 Mh hMI hIS hRM) (cwV 1 htl gL_law_X5_keep rfl rfl rfl ⟨rfl, hd_X5_keep⟩ ⟨Nat.le_of_ble_eq_true rfl, Nat.le_of_ble_eq_true rfl⟩) hK hN hP hD hS hA [55, 56, 57, 58, 59, 60, 61, 62, 63, 64, 65, 66, 67, 68, 69, 70, 71, 72, 73, 74, 75, 76, 77, 78, 79, 80] (lmc G ax am x1 wn1 wa1 w01 w11 rd1 wr1 z1 jj1 lt1 u lm sj) (by decide) (lmf G ax am x1 wn1 wa1 w01 w11 rd1 wr1 z1 jj1 lt1 u lm sj) (fun v => lml G ax am x1 wn1 wa1 w01 w11 rd1 wr1 z1 jj1 lt1 u lm sj v) (fun v => lmo G ax am x1 wn1 wa1 w01 w11 rd1 wr1 z1 jj1 lt1 u lm sj v) (fun v => lmm G ax am x1 wn1 wa1 w01 w11 rd1 wr1 z1 jj1 lt1 u lm sj v) 0 5 rfl rfl rfl hl.1 rfl (Nat.le_of_ble_eq_true rfl) ⟨Nat.le_of_ble_eq_true rfl, Nat.le_of_ble_eq_true rfl⟩ dL_law_974 (fun rM vM H locs hwM hP hD hS => ?_)
  obtain ⟨u1, lm1, sj1⟩ := vM
  obtain ⟨hM1, hM2⟩ := hwM
  have hM1 : RepM u1 sj1 (keeF sg y1) (zz) := hM1
  have hP : PP G (LWd G ax am x1 wn1 wa1 w01 w11 rd1 wr1 z1 jj1 lt1 u1 lm1 sj1) H := hP
  have hD : va_D (fun q : Nat => s.heap.size ≤ q) (LWd G ax am x1 wn1 wa1 w01 w11 rd1 wr1 z1 jj1 lt1 u1 lm1 sj1) := hD
  refine lv_pop hx hb dL_law_977 rfl ?_
  refine lv_goto (tgt := 1004) hx hb dL_law_978 (by decide) ?_
  exact kk x1 wn1 wa1 w01 w11 rd1 wr1 z1 jj1 lt1 u1 lm1 sj1 ⟨keeF sg y1, zz, IS_keeF hIS, hX1, hM1⟩ _ _ ls hP hD hS hl
set_option maxHeartbeats 4000000 in
set_option maxRecDepth 100000 in
theorem lc_27 {p : Program} {l : Launch} {e : Env} {s : State} {m : MethodId} {below : List Frame} {meth : Method} {c : Code} {G : gG} {ax am : Nat → Nat} {b L : Nat} {xs : Nat → Int32} (C0 : lw_At p s m meth c b L xs) (hK : KK G s) (hN : NN s) (i : Nat) (hi : i + 5 ≤ L) (hL : L ≤ 2560) (kk : LKC p l e s m below meth c G ax am b i 1004) : LKC p l e s m below meth c G ax am b i 981 := by
  obtain ⟨hx, hb, hr, hml, hown, hts, hX, hbl, hlocks, hgv⟩ := C0
  have htl : ∀ w ∈ wsL_law, w.before #[Value.ref b] s = true := fun w h => hts w (wsL_law_in w h)
  have hown : s.vm.findClass RL = some m.cls := hown
  have hA : ∀ q : Nat, s.heap.size ≤ q → (fun q : Nat => s.heap.size ≤ q) q := fun _ h => h
  have hbA : ¬ (fun q : Nat => s.heap.size ≤ q) b := Nat.not_le.mpr hbl
  intro x wn wa w0 w1 rd wr z jj lt u lm sj hI H locs ls hP hD hS hl
  obtain ⟨sg, zz, hIS, hRX, hRM⟩ := hI
  obtain ⟨Mh, hMI⟩ := hRM.mix hIS
  have htx9 : rwE (rd.2 0) (u.2 9) (sg.1 10) := hRX.2.2.2.2.1.trans hRM.2.2.2.1.symm
  have hlet : ∀ i, i < sg.1 10 → ∃ j, j ≤ 255 ∧ u.2 9 i = nI j := fun i hi => by rw [hRM.2.2.2.1 i hi]; exact hIS.2.2.2.2.2.2.1 i hi
  have hin1 : vp_in (nI (i + 1)) L := vp_in_nI (by omega) (by omega)
  generalize ey1 : xs (nI (i + 1)).toNatClampNeg = y1
  refine lv_aload_n hx hb dL_law_981 rfl (lv_at hl 1 rfl) ?_
  refine lv_aload_n hx hb dL_law_982 rfl (lv_at hl 0 rfl) ?_
  refine lv_iload_n hx hb dL_law_983 rfl (lv_at hl 3 rfl) ?_
  refine lv_iconst (v := nI 1) hx hb dL_law_984 (by decide) ?_
  refine lv_iadd hx hb dL_law_985 ?_
  refine topE (y := nI (i + 1)) (nI_add i 1) ?_
  refine va_sld hx hb hX hbl hbA hS hin1 dL_law_986 ?_
  refine topE ey1 ?_
  refine cWi (As := [.int y1]) (rest := []) (S := oS × oS × oS × oS × oS × oS × oS × oS × (Nat → Nat → Int64) × Int64) (wa := LWd G ax am x wn wa w0 w1 rd wr z jj lt u lm sj) (wc := xw G ax x wn wa w0 w1 rd wr z jj lt) (w1 := fun v => xw G ax v.1 v.2.1 v.2.2.1 v.2.2.2.1 v.2.2.2.2.1 v.2.2.2.2.2.1 v.2.2.2.2.2.2.1 v.2.2.2.2.2.2.2.1 v.2.2.2.2.2.2.2.2.1 v.2.2.2.2.2.2.2.2.2) (wa' := fun v => LWd G ax am v.1 v.2.1 v.2.2.1 v.2.2.2.1 v.2.2.2.2.1 v.2.2.2.2.2.1 v.2.2.2.2.2.2.1 v.2.2.2.2.2.2.2.1 v.2.2.2.2.2.2.2.2.1 v.2.2.2.2.2.2.2.2.2 u lm sj) ⟨hx, hb, hml, hown, htl⟩ (mt_X4_goBackS l G ax _ x wn wa w0 w1 rd wr z jj lt sg zz y1 hIS hRX) (cwV 1 htl gL_law_X4_goBack rfl rfl rfl ⟨rfl, hd_X4_goBack⟩ ⟨Nat.le_of_ble_eq_true rfl, Nat.le_of_ble_eq_true rfl⟩) hK hN hP hD hS hA [0, 1, 2, 3, 4, 5, 6, 7, 8, 9, 10, 11, 12, 13, 14, 15, 16, 17, 18, 19, 20, 21, 22, 23, 24, 25, 26, 27, 28, 29, 30, 31, 32, 33, 34, 35, 36, 37, 38, 39, 40, 41, 42, 43, 44, 45, 46, 47, 48, 49, 50, 51, 52, 53, 54] (lxc G ax am x wn wa w0 w1 rd wr z jj lt u lm sj) (by decide) (lxf G ax am x wn wa w0 w1 rd wr z jj lt u lm sj) (fun v => lxl G ax am x wn wa w0 w1 rd wr z jj lt u lm sj v) (fun v => lxo G ax am x wn wa w0 w1 rd wr z jj lt u lm sj v) (fun v => lxm G ax am x wn wa w0 w1 rd wr z jj lt u lm sj v) 0 4 rfl rfl rfl hl.1 rfl (Nat.le_of_ble_eq_true rfl) ⟨Nat.le_of_ble_eq_true rfl, Nat.le_of_ble_eq_true rfl⟩ dL_law_987 (fun rX vX H locs hwX hP hD hS => ?_)
  obtain ⟨x1, wn1, wa1, w01, w11, rd1, wr1, z1, jj1, lt1⟩ := vX
  obtain ⟨hX1, hX2⟩ := hwX
  have hX1 : RepX x1 wn1 wa1 w01 w11 rd1 z1 jj1 (bacF sg y1) (zz) := hX1
  have hP : PP G (LWd G ax am x1 wn1 wa1 w01 w11 rd1 wr1 z1 jj1 lt1 u lm sj) H := hP
  have hD : va_D (fun q : Nat => s.heap.size ≤ q) (LWd G ax am x1 wn1 wa1 w01 w11 rd1 wr1 z1 jj1 lt1 u lm sj) := hD
  refine lv_pop hx hb dL_law_990 rfl ?_
  refine lv_aload_n hx hb dL_law_991 rfl (lv_at hl 2 rfl) ?_
  refine lv_aload_n hx hb dL_law_992 rfl (lv_at hl 0 rfl) ?_
  refine lv_iload_n hx hb dL_law_993 rfl (lv_at hl 3 rfl) ?_
  refine lv_iconst (v := nI 1) hx hb dL_law_994 (by decide) ?_
  refine lv_iadd hx hb dL_law_995 ?_
  refine topE (y := nI (i + 1)) (nI_add i 1) ?_
  refine va_sld hx hb hX hbl hbA hS hin1 dL_law_996 ?_
  refine topE ey1 ?_
  refine cWi (As := [.int y1]) (rest := []) (S := oS × Int64 × (Nat → Int64)) (wa := LWd G ax am x1 wn1 wa1 w01 w11 rd1 wr1 z1 jj1 lt1 u lm sj) (wc := mw G am u lm sj) (w1 := fun v => mw G am v.1 v.2.1 v.2.2) (wa' := fun v => LWd G ax am x1 wn1 wa1 w01 w11 rd1 wr1 z1 jj1 lt1 v.1 v.2.1 v.2.2) ⟨hx, hb, hml, hown, htl⟩ (mt_X5_goBackS l G am _ u lm sj sg zz y1 Mh hMI hIS hRM) (cwV 1 htl gL_law_X5_goBack rfl rfl rfl ⟨rfl, hd_X5_goBack⟩ ⟨Nat.le_of_ble_eq_true rfl, Nat.le_of_ble_eq_true rfl⟩) hK hN hP hD hS hA [55, 56, 57, 58, 59, 60, 61, 62, 63, 64, 65, 66, 67, 68, 69, 70, 71, 72, 73, 74, 75, 76, 77, 78, 79, 80] (lmc G ax am x1 wn1 wa1 w01 w11 rd1 wr1 z1 jj1 lt1 u lm sj) (by decide) (lmf G ax am x1 wn1 wa1 w01 w11 rd1 wr1 z1 jj1 lt1 u lm sj) (fun v => lml G ax am x1 wn1 wa1 w01 w11 rd1 wr1 z1 jj1 lt1 u lm sj v) (fun v => lmo G ax am x1 wn1 wa1 w01 w11 rd1 wr1 z1 jj1 lt1 u lm sj v) (fun v => lmm G ax am x1 wn1 wa1 w01 w11 rd1 wr1 z1 jj1 lt1 u lm sj v) 0 5 rfl rfl rfl hl.1 rfl (Nat.le_of_ble_eq_true rfl) ⟨Nat.le_of_ble_eq_true rfl, Nat.le_of_ble_eq_true rfl⟩ dL_law_997 (fun rM vM H locs hwM hP hD hS => ?_)
  obtain ⟨u1, lm1, sj1⟩ := vM
  obtain ⟨hM1, hM2⟩ := hwM
  have hM1 : RepM u1 sj1 (bacF sg y1) (zz) := hM1
  have hP : PP G (LWd G ax am x1 wn1 wa1 w01 w11 rd1 wr1 z1 jj1 lt1 u1 lm1 sj1) H := hP
  have hD : va_D (fun q : Nat => s.heap.size ≤ q) (LWd G ax am x1 wn1 wa1 w01 w11 rd1 wr1 z1 jj1 lt1 u1 lm1 sj1) := hD
  refine lv_pop hx hb dL_law_1000 rfl ?_
  refine lv_goto (tgt := 1004) hx hb dL_law_1001 (by decide) ?_
  exact kk x1 wn1 wa1 w01 w11 rd1 wr1 z1 jj1 lt1 u1 lm1 sj1 ⟨bacF sg y1, zz, IS_bacF hIS, hX1, hM1⟩ _ _ ls hP hD hS hl
