set_option maxHeartbeats 4000000 in
set_option maxRecDepth 100000 in
theorem lc_10 {p : Program} {l : Launch} {e : Env} {s : State} {m : MethodId} {below : List Frame} {meth : Method} {c : Code} {G : gG} {ax am : Nat → Nat} {b L : Nat} {xs : Nat → Int32} (C0 : lw_At p s m meth c b L xs) (hK : KK G s) (hN : NN s) (i : Nat) (hi : i + 5 ≤ L) (hL : L ≤ 2560) (kk : LKC p l e s m below meth c G ax am b i 1004) : LKC p l e s m below meth c G ax am b i 410 := by
  obtain ⟨hx, hb, hr, hml, hown, hts, hX, hbl, hlocks, hgv⟩ := C0
  have htl : ∀ w ∈ wsL_law, w.before #[Value.ref b] s = true := fun w h => hts w (wsL_law_in w h)
  have hown : s.vm.findClass RL = some m.cls := hown
  have hA : ∀ q : Nat, s.heap.size ≤ q → (fun q : Nat => s.heap.size ≤ q) q := fun _ h => h
  have hbA : ¬ (fun q : Nat => s.heap.size ≤ q) b := Nat.not_le.mpr hbl
  intro x wn wa w0 w1 rd wr z jj lt u lm sj hI H locs ls hP hD hS hl
  obtain ⟨sg, zz, hIS, hRX, hRM⟩ := hI
  obtain ⟨Mh, hMI⟩ := hRM.mix hIS
  have htx9 : rwE (rd.2 0) (u.2 9) (sg.1 10) := hRX.2.2.2.2.1.trans hRM.2.2.2.1.symm
  have hlet : ∀ i, i < sg.1 10 → ∃ j, j ≤ 255 ∧ u.2 9 i = nI j := fun i hi => by rw [hRM.2.2.2.1 i hi]; exact hIS.2.2.2.2.2.2.1 i hi
  have hin1 : vp_in (nI (i + 1)) L := vp_in_nI (by omega) (by omega)
  generalize ey1 : xs (nI (i + 1)).toNatClampNeg = y1
  have hin2 : vp_in (nI (i + 2)) L := vp_in_nI (by omega) (by omega)
  generalize ey2 : xs (nI (i + 2)).toNatClampNeg = y2
  refine lv_aload_n hx hb dL_law_410 rfl (lv_at hl 1 rfl) ?_
  refine lv_aload_n hx hb dL_law_411 rfl (lv_at hl 0 rfl) ?_
  refine lv_iload_n hx hb dL_law_412 rfl (lv_at hl 3 rfl) ?_
  refine lv_iconst (v := nI 1) hx hb dL_law_413 (by decide) ?_
  refine lv_iadd hx hb dL_law_414 ?_
  refine topE (y := nI (i + 1)) (nI_add i 1) ?_
  refine va_sld hx hb hX hbl hbA hS hin1 dL_law_415 ?_
  refine topE ey1 ?_
  refine lv_aload_n hx hb dL_law_416 rfl (lv_at hl 0 rfl) ?_
  refine lv_iload_n hx hb dL_law_417 rfl (lv_at hl 3 rfl) ?_
  refine lv_iconst (v := nI 2) hx hb dL_law_418 (by decide) ?_
  refine lv_iadd hx hb dL_law_419 ?_
  refine topE (y := nI (i + 2)) (nI_add i 2) ?_
  refine va_sld hx hb hX hbl hbA hS hin2 dL_law_420 ?_
  refine topE ey2 ?_
  refine cWi (As := [.int y1, .int y2]) (rest := []) (S := oS × oS × oS × oS × oS × oS × oS × oS × (Nat → Nat → Int64) × Int64) (wa := LWd G ax am x wn wa w0 w1 rd wr z jj lt u lm sj) (wc := xw G ax x wn wa w0 w1 rd wr z jj lt) (w1 := fun v => xw G ax v.1 v.2.1 v.2.2.1 v.2.2.2.1 v.2.2.2.2.1 v.2.2.2.2.2.1 v.2.2.2.2.2.2.1 v.2.2.2.2.2.2.2.1 v.2.2.2.2.2.2.2.2.1 v.2.2.2.2.2.2.2.2.2) (wa' := fun v => LWd G ax am v.1 v.2.1 v.2.2.1 v.2.2.2.1 v.2.2.2.2.1 v.2.2.2.2.2.1 v.2.2.2.2.2.2.1 v.2.2.2.2.2.2.2.1 v.2.2.2.2.2.2.2.2.1 v.2.2.2.2.2.2.2.2.2 u lm sj) ⟨hx, hb, hml, hown, htl⟩ (mt_X4_putS l G ax _ x wn wa w0 w1 rd wr z jj lt sg zz y1 y2 hIS hRX) (cwV 2 htl gL_law_X4_put rfl rfl rfl ⟨rfl, hd_X4_put⟩ ⟨Nat.le_of_ble_eq_true rfl, Nat.le_of_ble_eq_true rfl⟩) hK hN hP hD hS hA [0, 1, 2, 3, 4, 5, 6, 7, 8, 9, 10, 11, 12, 13, 14, 15, 16, 17, 18, 19, 20, 21, 22, 23, 24, 25, 26, 27, 28, 29, 30, 31, 32, 33, 34, 35, 36, 37, 38, 39, 40, 41, 42, 43, 44, 45, 46, 47, 48, 49, 50, 51, 52, 53, 54] (lxc G ax am x wn wa w0 w1 rd wr z jj lt u lm sj) (by decide) (lxf G ax am x wn wa w0 w1 rd wr z jj lt u lm sj) (fun v => lxl G ax am x wn wa w0 w1 rd wr z jj lt u lm sj v) (fun v => lxo G ax am x wn wa w0 w1 rd wr z jj lt u lm sj v) (fun v => lxm G ax am x wn wa w0 w1 rd wr z jj lt u lm sj v) 0 4 rfl rfl rfl hl.1 rfl (Nat.le_of_ble_eq_true rfl) ⟨Nat.le_of_ble_eq_true rfl, Nat.le_of_ble_eq_true rfl⟩ dL_law_421 (fun rX vX H locs hwX hP hD hS => ?_)
  obtain ⟨x1, wn1, wa1, w01, w11, rd1, wr1, z1, jj1, lt1⟩ := vX
  obtain ⟨hX1, hX2⟩ := hwX
  have hX1 : RepX x1 wn1 wa1 w01 w11 rd1 z1 jj1 (putF sg y1 y2) (zz) := hX1
  have hP : PP G (LWd G ax am x1 wn1 wa1 w01 w11 rd1 wr1 z1 jj1 lt1 u lm sj) H := hP
  have hD : va_D (fun q : Nat => s.heap.size ≤ q) (LWd G ax am x1 wn1 wa1 w01 w11 rd1 wr1 z1 jj1 lt1 u lm sj) := hD
  refine lv_pop hx hb dL_law_424 rfl ?_
  refine lv_aload_n hx hb dL_law_425 rfl (lv_at hl 2 rfl) ?_
  refine lv_aload_n hx hb dL_law_426 rfl (lv_at hl 0 rfl) ?_
  refine lv_iload_n hx hb dL_law_427 rfl (lv_at hl 3 rfl) ?_
  refine lv_iconst (v := nI 1) hx hb dL_law_428 (by decide) ?_
  refine lv_iadd hx hb dL_law_429 ?_
  refine topE (y := nI (i + 1)) (nI_add i 1) ?_
  refine va_sld hx hb hX hbl hbA hS hin1 dL_law_430 ?_
  refine topE ey1 ?_
  refine lv_aload_n hx hb dL_law_431 rfl (lv_at hl 0 rfl) ?_
  refine lv_iload_n hx hb dL_law_432 rfl (lv_at hl 3 rfl) ?_
  refine lv_iconst (v := nI 2) hx hb dL_law_433 (by decide) ?_
  refine lv_iadd hx hb dL_law_434 ?_
  refine topE (y := nI (i + 2)) (nI_add i 2) ?_
  refine va_sld hx hb hX hbl hbA hS hin2 dL_law_435 ?_
  refine topE ey2 ?_
  refine cWi (As := [.int y1, .int y2]) (rest := []) (S := oS × Int64 × (Nat → Int64)) (wa := LWd G ax am x1 wn1 wa1 w01 w11 rd1 wr1 z1 jj1 lt1 u lm sj) (wc := mw G am u lm sj) (w1 := fun v => mw G am v.1 v.2.1 v.2.2) (wa' := fun v => LWd G ax am x1 wn1 wa1 w01 w11 rd1 wr1 z1 jj1 lt1 v.1 v.2.1 v.2.2) ⟨hx, hb, hml, hown, htl⟩ (mt_X5_putS l G am _ u lm sj sg zz y1 y2 Mh hMI hIS hRM) (cwV 2 htl gL_law_X5_put rfl rfl rfl ⟨rfl, hd_X5_put⟩ ⟨Nat.le_of_ble_eq_true rfl, Nat.le_of_ble_eq_true rfl⟩) hK hN hP hD hS hA [55, 56, 57, 58, 59, 60, 61, 62, 63, 64, 65, 66, 67, 68, 69, 70, 71, 72, 73, 74, 75, 76, 77, 78, 79, 80] (lmc G ax am x1 wn1 wa1 w01 w11 rd1 wr1 z1 jj1 lt1 u lm sj) (by decide) (lmf G ax am x1 wn1 wa1 w01 w11 rd1 wr1 z1 jj1 lt1 u lm sj) (fun v => lml G ax am x1 wn1 wa1 w01 w11 rd1 wr1 z1 jj1 lt1 u lm sj v) (fun v => lmo G ax am x1 wn1 wa1 w01 w11 rd1 wr1 z1 jj1 lt1 u lm sj v) (fun v => lmm G ax am x1 wn1 wa1 w01 w11 rd1 wr1 z1 jj1 lt1 u lm sj v) 0 5 rfl rfl rfl hl.1 rfl (Nat.le_of_ble_eq_true rfl) ⟨Nat.le_of_ble_eq_true rfl, Nat.le_of_ble_eq_true rfl⟩ dL_law_436 (fun rM vM H locs hwM hP hD hS => ?_)
  obtain ⟨u1, lm1, sj1⟩ := vM
  obtain ⟨hM1, hM2⟩ := hwM
  have hM1 : RepM u1 sj1 (putF sg y1 y2) (zz) := hM1
  have hP : PP G (LWd G ax am x1 wn1 wa1 w01 w11 rd1 wr1 z1 jj1 lt1 u1 lm1 sj1) H := hP
  have hD : va_D (fun q : Nat => s.heap.size ≤ q) (LWd G ax am x1 wn1 wa1 w01 w11 rd1 wr1 z1 jj1 lt1 u1 lm1 sj1) := hD
  refine lv_pop hx hb dL_law_439 rfl ?_
  refine lv_goto (tgt := 1004) hx hb dL_law_440 (by decide) ?_
  exact kk x1 wn1 wa1 w01 w11 rd1 wr1 z1 jj1 lt1 u1 lm1 sj1 ⟨putF sg y1 y2, zz, IS_putF hIS, hX1, hM1⟩ _ _ ls hP hD hS hl
set_option maxHeartbeats 4000000 in
set_option maxRecDepth 100000 in
theorem lc_11 {p : Program} {l : Launch} {e : Env} {s : State} {m : MethodId} {below : List Frame} {meth : Method} {c : Code} {G : gG} {ax am : Nat → Nat} {b L : Nat} {xs : Nat → Int32} (C0 : lw_At p s m meth c b L xs) (hK : KK G s) (hN : NN s) (i : Nat) (hi : i + 5 ≤ L) (hL : L ≤ 2560) (kk : LKC p l e s m below meth c G ax am b i 1004) : LKC p l e s m below meth c G ax am b i 443 := by
  obtain ⟨hx, hb, hr, hml, hown, hts, hX, hbl, hlocks, hgv⟩ := C0
  have htl : ∀ w ∈ wsL_law, w.before #[Value.ref b] s = true := fun w h => hts w (wsL_law_in w h)
  have hown : s.vm.findClass RL = some m.cls := hown
  have hA : ∀ q : Nat, s.heap.size ≤ q → (fun q : Nat => s.heap.size ≤ q) q := fun _ h => h
  have hbA : ¬ (fun q : Nat => s.heap.size ≤ q) b := Nat.not_le.mpr hbl
  intro x wn wa w0 w1 rd wr z jj lt u lm sj hI H locs ls hP hD hS hl
  obtain ⟨sg, zz, hIS, hRX, hRM⟩ := hI
  obtain ⟨Mh, hMI⟩ := hRM.mix hIS
  have htx9 : rwE (rd.2 0) (u.2 9) (sg.1 10) := hRX.2.2.2.2.1.trans hRM.2.2.2.1.symm
  have hlet : ∀ i, i < sg.1 10 → ∃ j, j ≤ 255 ∧ u.2 9 i = nI j := fun i hi => by rw [hRM.2.2.2.1 i hi]; exact hIS.2.2.2.2.2.2.1 i hi
  have hin1 : vp_in (nI (i + 1)) L := vp_in_nI (by omega) (by omega)
  generalize ey1 : xs (nI (i + 1)).toNatClampNeg = y1
  refine lv_aload_n hx hb dL_law_443 rfl (lv_at hl 1 rfl) ?_
  refine lv_aload_n hx hb dL_law_444 rfl (lv_at hl 0 rfl) ?_
  refine lv_iload_n hx hb dL_law_445 rfl (lv_at hl 3 rfl) ?_
  refine lv_iconst (v := nI 1) hx hb dL_law_446 (by decide) ?_
  refine lv_iadd hx hb dL_law_447 ?_
  refine topE (y := nI (i + 1)) (nI_add i 1) ?_
  refine va_sld hx hb hX hbl hbA hS hin1 dL_law_448 ?_
  refine topE ey1 ?_
  refine cWi (As := [.int y1]) (rest := []) (S := oS × oS × oS × oS × oS × oS × oS × oS × (Nat → Nat → Int64) × Int64) (wa := LWd G ax am x wn wa w0 w1 rd wr z jj lt u lm sj) (wc := xw G ax x wn wa w0 w1 rd wr z jj lt) (w1 := fun v => xw G ax v.1 v.2.1 v.2.2.1 v.2.2.2.1 v.2.2.2.2.1 v.2.2.2.2.2.1 v.2.2.2.2.2.2.1 v.2.2.2.2.2.2.2.1 v.2.2.2.2.2.2.2.2.1 v.2.2.2.2.2.2.2.2.2) (wa' := fun v => LWd G ax am v.1 v.2.1 v.2.2.1 v.2.2.2.1 v.2.2.2.2.1 v.2.2.2.2.2.1 v.2.2.2.2.2.2.1 v.2.2.2.2.2.2.2.1 v.2.2.2.2.2.2.2.2.1 v.2.2.2.2.2.2.2.2.2 u lm sj) ⟨hx, hb, hml, hown, htl⟩ (mt_X4_takeS l G ax _ x wn wa w0 w1 rd wr z jj lt sg zz y1 hIS hRX) (cwV 1 htl gL_law_X4_take rfl rfl rfl ⟨rfl, hd_X4_take⟩ ⟨Nat.le_of_ble_eq_true rfl, Nat.le_of_ble_eq_true rfl⟩) hK hN hP hD hS hA [0, 1, 2, 3, 4, 5, 6, 7, 8, 9, 10, 11, 12, 13, 14, 15, 16, 17, 18, 19, 20, 21, 22, 23, 24, 25, 26, 27, 28, 29, 30, 31, 32, 33, 34, 35, 36, 37, 38, 39, 40, 41, 42, 43, 44, 45, 46, 47, 48, 49, 50, 51, 52, 53, 54] (lxc G ax am x wn wa w0 w1 rd wr z jj lt u lm sj) (by decide) (lxf G ax am x wn wa w0 w1 rd wr z jj lt u lm sj) (fun v => lxl G ax am x wn wa w0 w1 rd wr z jj lt u lm sj v) (fun v => lxo G ax am x wn wa w0 w1 rd wr z jj lt u lm sj v) (fun v => lxm G ax am x wn wa w0 w1 rd wr z jj lt u lm sj v) 0 4 rfl rfl rfl hl.1 rfl (Nat.le_of_ble_eq_true rfl) ⟨Nat.le_of_ble_eq_true rfl, Nat.le_of_ble_eq_true rfl⟩ dL_law_449 (fun rX vX H locs hwX hP hD hS => ?_)
  obtain ⟨x1, wn1, wa1, w01, w11, rd1, wr1, z1, jj1, lt1⟩ := vX
  obtain ⟨hX1, hX2⟩ := hwX
  have hX1 : RepX x1 wn1 wa1 w01 w11 rd1 z1 jj1 (takF sg y1) (zz) := hX1
  have hP : PP G (LWd G ax am x1 wn1 wa1 w01 w11 rd1 wr1 z1 jj1 lt1 u lm sj) H := hP
  have hD : va_D (fun q : Nat => s.heap.size ≤ q) (LWd G ax am x1 wn1 wa1 w01 w11 rd1 wr1 z1 jj1 lt1 u lm sj) := hD
  refine lv_pop hx hb dL_law_452 rfl ?_
  refine lv_aload_n hx hb dL_law_453 rfl (lv_at hl 2 rfl) ?_
  refine lv_aload_n hx hb dL_law_454 rfl (lv_at hl 0 rfl) ?_
  refine lv_iload_n hx hb dL_law_455 rfl (lv_at hl 3 rfl) ?_
  refine lv_iconst (v := nI 1) hx hb dL_law_456 (by decide) ?_
  refine lv_iadd hx hb dL_law_457 ?_
  refine topE (y := nI (i + 1)) (nI_add i 1) ?_
  refine va_sld hx hb hX hbl hbA hS hin1 dL_law_458 ?_
  refine topE ey1 ?_
  refine cWi (As := [.int y1]) (rest := []) (S := oS × Int64 × (Nat → Int64)) (wa := LWd G ax am x1 wn1 wa1 w01 w11 rd1 wr1 z1 jj1 lt1 u lm sj) (wc := mw G am u lm sj) (w1 := fun v => mw G am v.1 v.2.1 v.2.2) (wa' := fun v => LWd G ax am x1 wn1 wa1 w01 w11 rd1 wr1 z1 jj1 lt1 v.1 v.2.1 v.2.2) ⟨hx, hb, hml, hown, htl⟩ (mt_X5_takeS l G am _ u lm sj sg zz y1 Mh hMI hIS hRM) (cwV 1 htl gL_law_X5_take rfl rfl rfl ⟨rfl, hd_X5_take⟩ ⟨Nat.le_of_ble_eq_true rfl, Nat.le_of_ble_eq_true rfl⟩) hK hN hP hD hS hA [55, 56, 57, 58, 59, 60, 61, 62, 63, 64, 65, 66, 67, 68, 69, 70, 71, 72, 73, 74, 75, 76, 77, 78, 79, 80] (lmc G ax am x1 wn1 wa1 w01 w11 rd1 wr1 z1 jj1 lt1 u lm sj) (by decide) (lmf G ax am x1 wn1 wa1 w01 w11 rd1 wr1 z1 jj1 lt1 u lm sj) (fun v => lml G ax am x1 wn1 wa1 w01 w11 rd1 wr1 z1 jj1 lt1 u lm sj v) (fun v => lmo G ax am x1 wn1 wa1 w01 w11 rd1 wr1 z1 jj1 lt1 u lm sj v) (fun v => lmm G ax am x1 wn1 wa1 w01 w11 rd1 wr1 z1 jj1 lt1 u lm sj v) 0 5 rfl rfl rfl hl.1 rfl (Nat.le_of_ble_eq_true rfl) ⟨Nat.le_of_ble_eq_true rfl, Nat.le_of_ble_eq_true rfl⟩ dL_law_459 (fun rM vM H locs hwM hP hD hS => ?_)
  obtain ⟨u1, lm1, sj1⟩ := vM
  obtain ⟨hM1, hM2⟩ := hwM
  have hM1 : RepM u1 sj1 (takF sg y1) (zz) := hM1
  have hP : PP G (LWd G ax am x1 wn1 wa1 w01 w11 rd1 wr1 z1 jj1 lt1 u1 lm1 sj1) H := hP
  have hD : va_D (fun q : Nat => s.heap.size ≤ q) (LWd G ax am x1 wn1 wa1 w01 w11 rd1 wr1 z1 jj1 lt1 u1 lm1 sj1) := hD
  refine lv_pop hx hb dL_law_462 rfl ?_
  refine lv_goto (tgt := 1004) hx hb dL_law_463 (by decide) ?_
  exact kk x1 wn1 wa1 w01 w11 rd1 wr1 z1 jj1 lt1 u1 lm1 sj1 ⟨takF sg y1, zz, IS_takF hIS, hX1, hM1⟩ _ _ ls hP hD hS hl
set_option maxHeartbeats 4000000 in
set_option maxRecDepth 100000 in
theorem lc_12 {p : Program} {l : Launch} {e : Env} {s : State} {m : MethodId} {below : List Frame} {meth : Method} {c : Code} {G : gG} {ax am : Nat → Nat} {b L : Nat} {xs : Nat → Int32} (C0 : lw_At p s m meth c b L xs) (hK : KK G s) (hN : NN s) (i : Nat) (hi : i + 5 ≤ L) (hL : L ≤ 2560) (kk : LKC p l e s m below meth c G ax am b i 1004) : LKC p l e s m below meth c G ax am b i 466 := by
  obtain ⟨hx, hb, hr, hml, hown, hts, hX, hbl, hlocks, hgv⟩ := C0
  have htl : ∀ w ∈ wsL_law, w.before #[Value.ref b] s = true := fun w h => hts w (wsL_law_in w h)
  have hown : s.vm.findClass RL = some m.cls := hown
  have hA : ∀ q : Nat, s.heap.size ≤ q → (fun q : Nat => s.heap.size ≤ q) q := fun _ h => h
  have hbA : ¬ (fun q : Nat => s.heap.size ≤ q) b := Nat.not_le.mpr hbl
  intro x wn wa w0 w1 rd wr z jj lt u lm sj hI H locs ls hP hD hS hl
  obtain ⟨sg, zz, hIS, hRX, hRM⟩ := hI
  obtain ⟨Mh, hMI⟩ := hRM.mix hIS
  have htx9 : rwE (rd.2 0) (u.2 9) (sg.1 10) := hRX.2.2.2.2.1.trans hRM.2.2.2.1.symm
  have hlet : ∀ i, i < sg.1 10 → ∃ j, j ≤ 255 ∧ u.2 9 i = nI j := fun i hi => by rw [hRM.2.2.2.1 i hi]; exact hIS.2.2.2.2.2.2.1 i hi
  refine lv_aload_n hx hb dL_law_466 rfl (lv_at hl 1 rfl) ?_
  refine cWi (As := []) (rest := []) (S := oS × oS × oS × oS × oS × oS × oS × oS × (Nat → Nat → Int64) × Int64) (wa := LWd G ax am x wn wa w0 w1 rd wr z jj lt u lm sj) (wc := xw G ax x wn wa w0 w1 rd wr z jj lt) (w1 := fun v => xw G ax v.1 v.2.1 v.2.2.1 v.2.2.2.1 v.2.2.2.2.1 v.2.2.2.2.2.1 v.2.2.2.2.2.2.1 v.2.2.2.2.2.2.2.1 v.2.2.2.2.2.2.2.2.1 v.2.2.2.2.2.2.2.2.2) (wa' := fun v => LWd G ax am v.1 v.2.1 v.2.2.1 v.2.2.2.1 v.2.2.2.2.1 v.2.2.2.2.2.1 v.2.2.2.2.2.2.1 v.2.2.2.2.2.2.2.1 v.2.2.2.2.2.2.2.2.1 v.2.2.2.2.2.2.2.2.2 u lm sj) ⟨hx, hb, hml, hown, htl⟩ (mt_X4_closeS l G ax _ x wn wa w0 w1 rd wr z jj lt sg zz hIS hRX) (cwV 0 htl gL_law_X4_close rfl rfl rfl ⟨rfl, hd_X4_close⟩ ⟨Nat.le_of_ble_eq_true rfl, Nat.le_of_ble_eq_true rfl⟩) hK hN hP hD hS hA [0, 1, 2, 3, 4, 5, 6, 7, 8, 9, 10, 11, 12, 13, 14, 15, 16, 17, 18, 19, 20, 21, 22, 23, 24, 25, 26, 27, 28, 29, 30, 31, 32, 33, 34, 35, 36, 37, 38, 39, 40, 41, 42, 43, 44, 45, 46, 47, 48, 49, 50, 51, 52, 53, 54] (lxc G ax am x wn wa w0 w1 rd wr z jj lt u lm sj) (by decide) (lxf G ax am x wn wa w0 w1 rd wr z jj lt u lm sj) (fun v => lxl G ax am x wn wa w0 w1 rd wr z jj lt u lm sj v) (fun v => lxo G ax am x wn wa w0 w1 rd wr z jj lt u lm sj v) (fun v => lxm G ax am x wn wa w0 w1 rd wr z jj lt u lm sj v) 0 4 rfl rfl rfl hl.1 rfl (Nat.le_of_ble_eq_true rfl) ⟨Nat.le_of_ble_eq_true rfl, Nat.le_of_ble_eq_true rfl⟩ dL_law_467 (fun rX vX H locs hwX hP hD hS => ?_)
  obtain ⟨x1, wn1, wa1, w01, w11, rd1, wr1, z1, jj1, lt1⟩ := vX
  obtain ⟨hX1, hX2⟩ := hwX
  have hX1 : RepX x1 wn1 wa1 w01 w11 rd1 z1 jj1 (clsF sg) (zz) := hX1
  have hP : PP G (LWd G ax am x1 wn1 wa1 w01 w11 rd1 wr1 z1 jj1 lt1 u lm sj) H := hP
  have hD : va_D (fun q : Nat => s.heap.size ≤ q) (LWd G ax am x1 wn1 wa1 w01 w11 rd1 wr1 z1 jj1 lt1 u lm sj) := hD
  refine lv_pop hx hb dL_law_470 rfl ?_
  refine lv_aload_n hx hb dL_law_471 rfl (lv_at hl 2 rfl) ?_
  refine cWi (As := []) (rest := []) (S := oS × Int64 × (Nat → Int64)) (wa := LWd G ax am x1 wn1 wa1 w01 w11 rd1 wr1 z1 jj1 lt1 u lm sj) (wc := mw G am u lm sj) (w1 := fun v => mw G am v.1 v.2.1 v.2.2) (wa' := fun v => LWd G ax am x1 wn1 wa1 w01 w11 rd1 wr1 z1 jj1 lt1 v.1 v.2.1 v.2.2) ⟨hx, hb, hml, hown, htl⟩ (mt_X5_closeS l G am _ u lm sj sg zz Mh hMI hIS hRM) (cwV 0 htl gL_law_X5_close rfl rfl rfl ⟨rfl, hd_X5_close⟩ ⟨Nat.le_of_ble_eq_true rfl, Nat.le_of_ble_eq_true rfl⟩) hK hN hP hD hS hA [55, 56, 57, 58, 59, 60, 61, 62, 63, 64, 65, 66, 67, 68, 69, 70, 71, 72, 73, 74, 75, 76, 77, 78, 79, 80] (lmc G ax am x1 wn1 wa1 w01 w11 rd1 wr1 z1 jj1 lt1 u lm sj) (by decide) (lmf G ax am x1 wn1 wa1 w01 w11 rd1 wr1 z1 jj1 lt1 u lm sj) (fun v => lml G ax am x1 wn1 wa1 w01 w11 rd1 wr1 z1 jj1 lt1 u lm sj v) (fun v => lmo G ax am x1 wn1 wa1 w01 w11 rd1 wr1 z1 jj1 lt1 u lm sj v) (fun v => lmm G ax am x1 wn1 wa1 w01 w11 rd1 wr1 z1 jj1 lt1 u lm sj v) 0 5 rfl rfl rfl hl.1 rfl (Nat.le_of_ble_eq_true rfl) ⟨Nat.le_of_ble_eq_true rfl, Nat.le_of_ble_eq_true rfl⟩ dL_law_472 (fun rM vM H locs hwM hP hD hS => ?_)
  obtain ⟨u1, lm1, sj1⟩ := vM
  obtain ⟨hM1, hM2⟩ := hwM
  have hM1 : RepM u1 sj1 (clsF sg) (zz) := hM1
  have hP : PP G (LWd G ax am x1 wn1 wa1 w01 w11 rd1 wr1 z1 jj1 lt1 u1 lm1 sj1) H := hP
  have hD : va_D (fun q : Nat => s.heap.size ≤ q) (LWd G ax am x1 wn1 wa1 w01 w11 rd1 wr1 z1 jj1 lt1 u1 lm1 sj1) := hD
  refine lv_pop hx hb dL_law_475 rfl ?_
  refine lv_goto (tgt := 1004) hx hb dL_law_476 (by decide) ?_
  exact kk x1 wn1 wa1 w01 w11 rd1 wr1 z1 jj1 lt1 u1 lm1 sj1 ⟨clsF sg, zz, IS_clsF hIS, hX1, hM1⟩ _ _ ls hP hD hS hl
set_option maxHeartbeats 4000000 in
set_option maxRecDepth 100000 in
theorem lc_13 {p : Program} {l : Launch} {e : Env} {s : State} {m : MethodId} {below : List Frame} {meth : Method} {c : Code} {G : gG} {ax am : Nat → Nat} {b L : Nat} {xs : Nat → Int32} (C0 : lw_At p s m meth c b L xs) (hK : KK G s) (hN : NN s) (i : Nat) (hi : i + 5 ≤ L) (hL : L ≤ 2560) (kk : LKC p l e s m below meth c G ax am b i 1004) : LKC p l e s m below meth c G ax am b i 479 := by
  obtain ⟨hx, hb, hr, hml, hown, hts, hX, hbl, hlocks, hgv⟩ := C0
  have htl : ∀ w ∈ wsL_law, w.before #[Value.ref b] s = true := fun w h => hts w (wsL_law_in w h)
  have hown : s.vm.findClass RL = some m.cls := hown
  have hA : ∀ q : Nat, s.heap.size ≤ q → (fun q : Nat => s.heap.size ≤ q) q := fun _ h => h
  have hbA : ¬ (fun q : Nat => s.heap.size ≤ q) b := Nat.not_le.mpr hbl
  intro x wn wa w0 w1 rd wr z jj lt u lm sj hI H locs ls hP hD hS hl
  obtain ⟨sg, zz, hIS, hRX, hRM⟩ := hI
  obtain ⟨Mh, hMI⟩ := hRM.mix hIS
  have htx9 : rwE (rd.2 0) (u.2 9) (sg.1 10) := hRX.2.2.2.2.1.trans hRM.2.2.2.1.symm
  have hlet : ∀ i, i < sg.1 10 → ∃ j, j ≤ 255 ∧ u.2 9 i = nI j := fun i hi => by rw [hRM.2.2.2.1 i hi]; exact hIS.2.2.2.2.2.2.1 i hi
  refine lv_aload_n hx hb dL_law_479 rfl (lv_at hl 1 rfl) ?_
  refine cWi (As := []) (rest := []) (S := oS × oS × oS × oS × oS × oS × oS × oS × (Nat → Nat → Int64) × Int64) (wa := LWd G ax am x wn wa w0 w1 rd wr z jj lt u lm sj) (wc := xw G ax x wn wa w0 w1 rd wr z jj lt) (w1 := fun v => xw G ax v.1 v.2.1 v.2.2.1 v.2.2.2.1 v.2.2.2.2.1 v.2.2.2.2.2.1 v.2.2.2.2.2.2.1 v.2.2.2.2.2.2.2.1 v.2.2.2.2.2.2.2.2.1 v.2.2.2.2.2.2.2.2.2) (wa' := fun v => LWd G ax am v.1 v.2.1 v.2.2.1 v.2.2.2.1 v.2.2.2.2.1 v.2.2.2.2.2.1 v.2.2.2.2.2.2.1 v.2.2.2.2.2.2.2.1 v.2.2.2.2.2.2.2.2.1 v.2.2.2.2.2.2.2.2.2 u lm sj) ⟨hx, hb, hml, hown, htl⟩ (mt_X4_leaveS l G ax _ x wn wa w0 w1 rd wr z jj lt sg zz hIS hRX) (cwV 0 htl gL_law_X4_leave rfl rfl rfl ⟨rfl, hd_X4_leave⟩ ⟨Nat.le_of_ble_eq_true rfl, Nat.le_of_ble_eq_true rfl⟩) hK hN hP hD hS hA [0, 1, 2, 3, 4, 5, 6, 7, 8, 9, 10, 11, 12, 13, 14, 15, 16, 17, 18, 19, 20, 21, 22, 23, 24, 25, 26, 27, 28, 29, 30, 31, 32, 33, 34, 35, 36, 37, 38, 39, 40, 41, 42, 43, 44, 45, 46, 47, 48, 49, 50, 51, 52, 53, 54] (lxc G ax am x wn wa w0 w1 rd wr z jj lt u lm sj) (by decide) (lxf G ax am x wn wa w0 w1 rd wr z jj lt u lm sj) (fun v => lxl G ax am x wn wa w0 w1 rd wr z jj lt u lm sj v) (fun v => lxo G ax am x wn wa w0 w1 rd wr z jj lt u lm sj v) (fun v => lxm G ax am x wn wa w0 w1 rd wr z jj lt u lm sj v) 0 4 rfl rfl rfl hl.1 rfl (Nat.le_of_ble_eq_true rfl) ⟨Nat.le_of_ble_eq_true rfl, Nat.le_of_ble_eq_true rfl⟩ dL_law_480 (fun rX vX H locs hwX hP hD hS => ?_)
  obtain ⟨x1, wn1, wa1, w01, w11, rd1, wr1, z1, jj1, lt1⟩ := vX
  obtain ⟨hX1, hX2⟩ := hwX
  have hX1 : RepX x1 wn1 wa1 w01 w11 rd1 z1 jj1 (leaF sg) (zz) := hX1
  have hP : PP G (LWd G ax am x1 wn1 wa1 w01 w11 rd1 wr1 z1 jj1 lt1 u lm sj) H := hP
  have hD : va_D (fun q : Nat => s.heap.size ≤ q) (LWd G ax am x1 wn1 wa1 w01 w11 rd1 wr1 z1 jj1 lt1 u lm sj) := hD
  refine lv_pop hx hb dL_law_483 rfl ?_
  refine lv_aload_n hx hb dL_law_484 rfl (lv_at hl 2 rfl) ?_
  refine cWi (As := []) (rest := []) (S := oS × Int64 × (Nat → Int64)) (wa := LWd G ax am x1 wn1 wa1 w01 w11 rd1 wr1 z1 jj1 lt1 u lm sj) (wc := mw G am u lm sj) (w1 := fun v => mw G am v.1 v.2.1 v.2.2) (wa' := fun v => LWd G ax am x1 wn1 wa1 w01 w11 rd1 wr1 z1 jj1 lt1 v.1 v.2.1 v.2.2) ⟨hx, hb, hml, hown, htl⟩ (mt_X5_leaveS l G am _ u lm sj sg zz Mh hMI hIS hRM) (cwV 0 htl gL_law_X5_leave rfl rfl rfl ⟨rfl, hd_X5_leave⟩ ⟨Nat.le_of_ble_eq_true rfl, Nat.le_of_ble_eq_true rfl⟩) hK hN hP hD hS hA [55, 56, 57, 58, 59, 60, 61, 62, 63, 64, 65, 66, 67, 68, 69, 70, 71, 72, 73, 74, 75, 76, 77, 78, 79, 80] (lmc G ax am x1 wn1 wa1 w01 w11 rd1 wr1 z1 jj1 lt1 u lm sj) (by decide) (lmf G ax am x1 wn1 wa1 w01 w11 rd1 wr1 z1 jj1 lt1 u lm sj) (fun v => lml G ax am x1 wn1 wa1 w01 w11 rd1 wr1 z1 jj1 lt1 u lm sj v) (fun v => lmo G ax am x1 wn1 wa1 w01 w11 rd1 wr1 z1 jj1 lt1 u lm sj v) (fun v => lmm G ax am x1 wn1 wa1 w01 w11 rd1 wr1 z1 jj1 lt1 u lm sj v) 0 5 rfl rfl rfl hl.1 rfl (Nat.le_of_ble_eq_true rfl) ⟨Nat.le_of_ble_eq_true rfl, Nat.le_of_ble_eq_true rfl⟩ dL_law_485 (fun rM vM H locs hwM hP hD hS => ?_)
  obtain ⟨u1, lm1, sj1⟩ := vM
  obtain ⟨hM1, hM2⟩ := hwM
  have hM1 : RepM u1 sj1 (leaF sg) (zz) := hM1
  have hP : PP G (LWd G ax am x1 wn1 wa1 w01 w11 rd1 wr1 z1 jj1 lt1 u1 lm1 sj1) H := hP
  have hD : va_D (fun q : Nat => s.heap.size ≤ q) (LWd G ax am x1 wn1 wa1 w01 w11 rd1 wr1 z1 jj1 lt1 u1 lm1 sj1) := hD
  refine lv_pop hx hb dL_law_488 rfl ?_
  refine lv_goto (tgt := 1004) hx hb dL_law_489 (by decide) ?_
  exact kk x1 wn1 wa1 w01 w11 rd1 wr1 z1 jj1 lt1 u1 lm1 sj1 ⟨leaF sg, zz, IS_leaF hIS, hX1, hM1⟩ _ _ ls hP hD hS hl
set_option maxHeartbeats 4000000 in
set_option maxRecDepth 100000 in
theorem lc_14 {p : Program} {l : Launch} {e : Env} {s : State} {m : MethodId} {below : List Frame} {meth : Method} {c : Code} {G : gG} {ax am : Nat → Nat} {b L : Nat} {xs : Nat → Int32} (C0 : lw_At p s m meth c b L xs) (hK : KK G s) (hN : NN s) (i : Nat) (hi : i + 5 ≤ L) (hL : L ≤ 2560) (kk : LKC p l e s m below meth c G ax am b i 1004) : LKC p l e s m below meth c G ax am b i 492 := by
  obtain ⟨hx, hb, hr, hml, hown, hts, hX, hbl, hlocks, hgv⟩ := C0
  have htl : ∀ w ∈ wsL_law, w.before #[Value.ref b] s = true := fun w h => hts w (wsL_law_in w h)
  have hown : s.vm.findClass RL = some m.cls := hown
  have hA : ∀ q : Nat, s.heap.size ≤ q → (fun q : Nat => s.heap.size ≤ q) q := fun _ h => h
  have hbA : ¬ (fun q : Nat => s.heap.size ≤ q) b := Nat.not_le.mpr hbl
  intro x wn wa w0 w1 rd wr z jj lt u lm sj hI H locs ls hP hD hS hl
  obtain ⟨sg, zz, hIS, hRX, hRM⟩ := hI
  obtain ⟨Mh, hMI⟩ := hRM.mix hIS
  have htx9 : rwE (rd.2 0) (u.2 9) (sg.1 10) := hRX.2.2.2.2.1.trans hRM.2.2.2.1.symm
  have hlet : ∀ i, i < sg.1 10 → ∃ j, j ≤ 255 ∧ u.2 9 i = nI j := fun i hi => by rw [hRM.2.2.2.1 i hi]; exact hIS.2.2.2.2.2.2.1 i hi
  have hin1 : vp_in (nI (i + 1)) L := vp_in_nI (by omega) (by omega)
  generalize ey1 : xs (nI (i + 1)).toNatClampNeg = y1
  have hin2 : vp_in (nI (i + 2)) L := vp_in_nI (by omega) (by omega)
  generalize ey2 : xs (nI (i + 2)).toNatClampNeg = y2
  refine lv_aload_n hx hb dL_law_492 rfl (lv_at hl 1 rfl) ?_
  refine lv_aload_n hx hb dL_law_493 rfl (lv_at hl 0 rfl) ?_
  refine lv_iload_n hx hb dL_law_494 rfl (lv_at hl 3 rfl) ?_
  refine lv_iconst (v := nI 1) hx hb dL_law_495 (by decide) ?_
  refine lv_iadd hx hb dL_law_496 ?_
  refine topE (y := nI (i + 1)) (nI_add i 1) ?_
  refine va_sld hx hb hX hbl hbA hS hin1 dL_law_497 ?_
  refine topE ey1 ?_
  refine lv_aload_n hx hb dL_law_498 rfl (lv_at hl 0 rfl) ?_
  refine lv_iload_n hx hb dL_law_499 rfl (lv_at hl 3 rfl) ?_
  refine lv_iconst (v := nI 2) hx hb dL_law_500 (by decide) ?_
  refine lv_iadd hx hb dL_law_501 ?_
  refine topE (y := nI (i + 2)) (nI_add i 2) ?_
  refine va_sld hx hb hX hbl hbA hS hin2 dL_law_502 ?_
  refine topE ey2 ?_
  refine cWi (As := [.int y1, .int y2]) (rest := []) (S := oS × oS × oS × oS × oS × oS × oS × oS × (Nat → Nat → Int64) × Int64) (wa := LWd G ax am x wn wa w0 w1 rd wr z jj lt u lm sj) (wc := xw G ax x wn wa w0 w1 rd wr z jj lt) (w1 := fun v => xw G ax v.1 v.2.1 v.2.2.1 v.2.2.2.1 v.2.2.2.2.1 v.2.2.2.2.2.1 v.2.2.2.2.2.2.1 v.2.2.2.2.2.2.2.1 v.2.2.2.2.2.2.2.2.1 v.2.2.2.2.2.2.2.2.2) (wa' := fun v => LWd G ax am v.1 v.2.1 v.2.2.1 v.2.2.2.1 v.2.2.2.2.1 v.2.2.2.2.2.1 v.2.2.2.2.2.2.1 v.2.2.2.2.2.2.2.1 v.2.2.2.2.2.2.2.2.1 v.2.2.2.2.2.2.2.2.2 u lm sj) ⟨hx, hb, hml, hown, htl⟩ (mt_X4_driftS l G ax _ x wn wa w0 w1 rd wr z jj lt sg zz y1 y2 hIS hRX) (cwV 2 htl gL_law_X4_drift rfl rfl rfl ⟨rfl, hd_X4_drift⟩ ⟨Nat.le_of_ble_eq_true rfl, Nat.le_of_ble_eq_true rfl⟩) hK hN hP hD hS hA [0, 1, 2, 3, 4, 5, 6, 7, 8, 9, 10, 11, 12, 13, 14, 15, 16, 17, 18, 19, 20, 21, 22, 23, 24, 25, 26, 27, 28, 29, 30, 31, 32, 33, 34, 35, 36, 37, 38, 39, 40, 41, 42, 43, 44, 45, 46, 47, 48, 49, 50, 51, 52, 53, 54] (lxc G ax am x wn wa w0 w1 rd wr z jj lt u lm sj) (by decide) (lxf G ax am x wn wa w0 w1 rd wr z jj lt u lm sj) (fun v => lxl G ax am x wn wa w0 w1 rd wr z jj lt u lm sj v) (fun v => lxo G ax am x wn wa w0 w1 rd wr z jj lt u lm sj v) (fun v => lxm G ax am x wn wa w0 w1 rd wr z jj lt u lm sj v) 0 4 rfl rfl rfl hl.1 rfl (Nat.le_of_ble_eq_true rfl) ⟨Nat.le_of_ble_eq_true rfl, Nat.le_of_ble_eq_true rfl⟩ dL_law_503 (fun rX vX H locs hwX hP hD hS => ?_)
  obtain ⟨x1, wn1, wa1, w01, w11, rd1, wr1, z1, jj1, lt1⟩ := vX
  obtain ⟨hX1, hX2⟩ := hwX
  have hX1 : RepX x1 wn1 wa1 w01 w11 rd1 z1 jj1 (driF sg y1 y2) (zz) := hX1
  have hP : PP G (LWd G ax am x1 wn1 wa1 w01 w11 rd1 wr1 z1 jj1 lt1 u lm sj) H := hP
  have hD : va_D (fun q : Nat => s.heap.size ≤ q) (LWd G ax am x1 wn1 wa1 w01 w11 rd1 wr1 z1 jj1 lt1 u lm sj) := hD
  refine lv_pop hx hb dL_law_506 rfl ?_
  refine lv_aload_n hx hb dL_law_507 rfl (lv_at hl 2 rfl) ?_
  refine lv_aload_n hx hb dL_law_508 rfl (lv_at hl 0 rfl) ?_
  refine lv_iload_n hx hb dL_law_509 rfl (lv_at hl 3 rfl) ?_
  refine lv_iconst (v := nI 1) hx hb dL_law_510 (by decide) ?_
  refine lv_iadd hx hb dL_law_511 ?_
  refine topE (y := nI (i + 1)) (nI_add i 1) ?_
  refine va_sld hx hb hX hbl hbA hS hin1 dL_law_512 ?_
  refine topE ey1 ?_
  refine lv_aload_n hx hb dL_law_513 rfl (lv_at hl 0 rfl) ?_
  refine lv_iload_n hx hb dL_law_514 rfl (lv_at hl 3 rfl) ?_
  refine lv_iconst (v := nI 2) hx hb dL_law_515 (by decide) ?_
  refine lv_iadd hx hb dL_law_516 ?_
  refine topE (y := nI (i + 2)) (nI_add i 2) ?_
  refine va_sld hx hb hX hbl hbA hS hin2 dL_law_517 ?_
  refine topE ey2 ?_
  refine cWi (As := [.int y1, .int y2]) (rest := []) (S := oS × Int64 × (Nat → Int64)) (wa := LWd G ax am x1 wn1 wa1 w01 w11 rd1 wr1 z1 jj1 lt1 u lm sj) (wc := mw G am u lm sj) (w1 := fun v => mw G am v.1 v.2.1 v.2.2) (wa' := fun v => LWd G ax am x1 wn1 wa1 w01 w11 rd1 wr1 z1 jj1 lt1 v.1 v.2.1 v.2.2) ⟨hx, hb, hml, hown, htl⟩ (mt_X5_driftS l G am _ u lm sj sg zz y1 y2 Mh hMI hIS hRM) (cwV 2 htl gL_law_X5_drift rfl rfl rfl ⟨rfl, hd_X5_drift⟩ ⟨Nat.le_of_ble_eq_true rfl, Nat.le_of_ble_eq_true rfl⟩) hK hN hP hD hS hA [55, 56, 57, 58, 59, 60, 61, 62, 63, 64, 65, 66, 67, 68, 69, 70, 71, 72, 73, 74, 75, 76, 77, 78, 79, 80] (lmc G ax am x1 wn1 wa1 w01 w11 rd1 wr1 z1 jj1 lt1 u lm sj) (by decide) (lmf G ax am x1 wn1 wa1 w01 w11 rd1 wr1 z1 jj1 lt1 u lm sj) (fun v => lml G ax am x1 wn1 wa1 w01 w11 rd1 wr1 z1 jj1 lt1 u lm sj v) (fun v => lmo G ax am x1 wn1 wa1 w01 w11 rd1 wr1 z1 jj1 lt1 u lm sj v) (fun v => lmm G ax am x1 wn1 wa1 w01 w11 rd1 wr1 z1 jj1 lt1 u lm sj v) 0 5 rfl rfl rfl hl.1 rfl (Nat.le_of_ble_eq_true rfl) ⟨Nat.le_of_ble_eq_true rfl, Nat.le_of_ble_eq_true rfl⟩ dL_law_518 (fun rM vM H locs hwM hP hD hS => ?_)
  obtain ⟨u1, lm1, sj1⟩ := vM
  obtain ⟨hM1, hM2⟩ := hwM
  have hM1 : RepM u1 sj1 (driF sg y1 y2) (zz) := hM1
  have hP : PP G (LWd G ax am x1 wn1 wa1 w01 w11 rd1 wr1 z1 jj1 lt1 u1 lm1 sj1) H := hP
  have hD : va_D (fun q : Nat => s.heap.size ≤ q) (LWd G ax am x1 wn1 wa1 w01 w11 rd1 wr1 z1 jj1 lt1 u1 lm1 sj1) := hD
  refine lv_pop hx hb dL_law_521 rfl ?_
  refine lv_goto (tgt := 1004) hx hb dL_law_522 (by decide) ?_
  exact kk x1 wn1 wa1 w01 w11 rd1 wr1 z1 jj1 lt1 u1 lm1 sj1 ⟨driF sg y1 y2, zz, IS_driF hIS, hX1, hM1⟩ _ _ ls hP hD hS hl
set_option maxHeartbeats 4000000 in
set_option maxRecDepth 100000 in
theorem lc_15 {p : Program} {l : Launch} {e : Env} {s : State} {m : MethodId} {below : List Frame} {meth : Method} {c : Code} {G : gG} {ax am : Nat → Nat} {b L : Nat} {xs : Nat → Int32} (C0 : lw_At p s m meth c b L xs) (hK : KK G s) (hN : NN s) (i : Nat) (hi : i + 5 ≤ L) (hL : L ≤ 2560) (kk : LKC p l e s m below meth c G ax am b i 1004) : LKC p l e s m below meth c G ax am b i 525 := by
  obtain ⟨hx, hb, hr, hml, hown, hts, hX, hbl, hlocks, hgv⟩ := C0
  have htl : ∀ w ∈ wsL_law, w.before #[Value.ref b] s = true := fun w h => hts w (wsL_law_in w h)
  have hown : s.vm.findClass RL = some m.cls := hown
  have hA : ∀ q : Nat, s.heap.size ≤ q → (fun q : Nat => s.heap.size ≤ q) q := fun _ h => h
  have hbA : ¬ (fun q : Nat => s.heap.size ≤ q) b := Nat.not_le.mpr hbl
  intro x wn wa w0 w1 rd wr z jj lt u lm sj hI H locs ls hP hD hS hl
  obtain ⟨sg, zz, hIS, hRX, hRM⟩ := hI
  obtain ⟨Mh, hMI⟩ := hRM.mix hIS
  have htx9 : rwE (rd.2 0) (u.2 9) (sg.1 10) := hRX.2.2.2.2.1.trans hRM.2.2.2.1.symm
  have hlet : ∀ i, i < sg.1 10 → ∃ j, j ≤ 255 ∧ u.2 9 i = nI j := fun i hi => by rw [hRM.2.2.2.1 i hi]; exact hIS.2.2.2.2.2.2.1 i hi
  have hin1 : vp_in (nI (i + 1)) L := vp_in_nI (by omega) (by omega)
  generalize ey1 : xs (nI (i + 1)).toNatClampNeg = y1
  have hin2 : vp_in (nI (i + 2)) L := vp_in_nI (by omega) (by omega)
  generalize ey2 : xs (nI (i + 2)).toNatClampNeg = y2
  refine lv_aload_n hx hb dL_law_525 rfl (lv_at hl 1 rfl) ?_
  refine lv_aload_n hx hb dL_law_526 rfl (lv_at hl 0 rfl) ?_
  refine lv_iload_n hx hb dL_law_527 rfl (lv_at hl 3 rfl) ?_
  refine lv_iconst (v := nI 1) hx hb dL_law_528 (by decide) ?_
  refine lv_iadd hx hb dL_law_529 ?_
  refine topE (y := nI (i + 1)) (nI_add i 1) ?_
  refine va_sld hx hb hX hbl hbA hS hin1 dL_law_530 ?_
  refine topE ey1 ?_
  refine lv_aload_n hx hb dL_law_531 rfl (lv_at hl 0 rfl) ?_
  refine lv_iload_n hx hb dL_law_532 rfl (lv_at hl 3 rfl) ?_
  refine lv_iconst (v := nI 2) hx hb dL_law_533 (by decide) ?_
  refine lv_iadd hx hb dL_law_534 ?_
  refine topE (y := nI (i + 2)) (nI_add i 2) ?_
  refine va_sld hx hb hX hbl hbA hS hin2 dL_law_535 ?_
  refine topE ey2 ?_
  refine cRi (w := xw G ax x wn wa w0 w1 rd wr z jj lt) (As := [.int y1, .int y2]) (rest := []) ⟨hx, hb, hml, hown, htl⟩ (mt_X4_shareS l G ax x wn wa w0 w1 rd wr z jj lt sg zz y1 y2 hIS hRX) (cwV 2 htl gL_law_X4_share rfl rfl rfl ⟨rfl, hd_X4_share⟩ ⟨Nat.le_of_ble_eq_true rfl, Nat.le_of_ble_eq_true rfl⟩) hK hN (hP.sub [0, 1, 2, 3, 4, 5, 6, 7, 8, 9, 10, 11, 12, 13, 14, 15, 16, 17, 18, 19, 20, 21, 22, 23, 24, 25, 26, 27, 28, 29, 30, 31, 32, 33, 34, 35, 36, 37, 38, 39, 40, 41, 42, 43, 44, 45, 46, 47, 48, 49, 50, 51, 52, 53, 54] (lxf G ax am x wn wa w0 w1 rd wr z jj lt u lm sj)) 0 4 rfl rfl rfl hl.1 rfl (Nat.le_of_ble_eq_true rfl) ⟨Nat.le_of_ble_eq_true rfl, Nat.le_of_ble_eq_true rfl⟩ dL_law_536 (fun rX hwX => ?_)
  have hX2 := hwX
  refine lv_pop hx hb dL_law_539 rfl ?_
  refine lv_aload_n hx hb dL_law_540 rfl (lv_at hl 2 rfl) ?_
  refine lv_aload_n hx hb dL_law_541 rfl (lv_at hl 0 rfl) ?_
  refine lv_iload_n hx hb dL_law_542 rfl (lv_at hl 3 rfl) ?_
  refine lv_iconst (v := nI 1) hx hb dL_law_543 (by decide) ?_
  refine lv_iadd hx hb dL_law_544 ?_
  refine topE (y := nI (i + 1)) (nI_add i 1) ?_
  refine va_sld hx hb hX hbl hbA hS hin1 dL_law_545 ?_
  refine topE ey1 ?_
  refine lv_aload_n hx hb dL_law_546 rfl (lv_at hl 0 rfl) ?_
  refine lv_iload_n hx hb dL_law_547 rfl (lv_at hl 3 rfl) ?_
  refine lv_iconst (v := nI 2) hx hb dL_law_548 (by decide) ?_
  refine lv_iadd hx hb dL_law_549 ?_
  refine topE (y := nI (i + 2)) (nI_add i 2) ?_
  refine va_sld hx hb hX hbl hbA hS hin2 dL_law_550 ?_
  refine topE ey2 ?_
  refine cWi (As := [.int y1, .int y2]) (rest := []) (S := oS × Int64 × (Nat → Int64)) (wa := LWd G ax am x wn wa w0 w1 rd wr z jj lt u lm sj) (wc := mw G am u lm sj) (w1 := fun v => mw G am v.1 v.2.1 v.2.2) (wa' := fun v => LWd G ax am x wn wa w0 w1 rd wr z jj lt v.1 v.2.1 v.2.2) ⟨hx, hb, hml, hown, htl⟩ (mt_X5_shareS l G am _ u lm sj sg zz y1 y2 Mh hMI hIS hRM) (cwV 2 htl gL_law_X5_share rfl rfl rfl ⟨rfl, hd_X5_share⟩ ⟨Nat.le_of_ble_eq_true rfl, Nat.le_of_ble_eq_true rfl⟩) hK hN hP hD hS hA [55, 56, 57, 58, 59, 60, 61, 62, 63, 64, 65, 66, 67, 68, 69, 70, 71, 72, 73, 74, 75, 76, 77, 78, 79, 80] (lmc G ax am x wn wa w0 w1 rd wr z jj lt u lm sj) (by decide) (lmf G ax am x wn wa w0 w1 rd wr z jj lt u lm sj) (fun v => lml G ax am x wn wa w0 w1 rd wr z jj lt u lm sj v) (fun v => lmo G ax am x wn wa w0 w1 rd wr z jj lt u lm sj v) (fun v => lmm G ax am x wn wa w0 w1 rd wr z jj lt u lm sj v) 0 5 rfl rfl rfl hl.1 rfl (Nat.le_of_ble_eq_true rfl) ⟨Nat.le_of_ble_eq_true rfl, Nat.le_of_ble_eq_true rfl⟩ dL_law_551 (fun rM vM H locs hwM hP hD hS => ?_)
  obtain ⟨u1, lm1, sj1⟩ := vM
  obtain ⟨hM1, hM2⟩ := hwM
  have hM1 : RepM u1 sj1 (sg) (zz) := hM1
  have hP : PP G (LWd G ax am x wn wa w0 w1 rd wr z jj lt u1 lm1 sj1) H := hP
  have hD : va_D (fun q : Nat => s.heap.size ≤ q) (LWd G ax am x wn wa w0 w1 rd wr z jj lt u1 lm1 sj1) := hD
  refine lv_pop hx hb dL_law_554 rfl ?_
  refine lv_goto (tgt := 1004) hx hb dL_law_555 (by decide) ?_
  exact kk x wn wa w0 w1 rd wr z jj lt u1 lm1 sj1 ⟨sg, zz, hIS, hRX, hM1⟩ _ _ ls hP hD hS hl
set_option maxHeartbeats 4000000 in
set_option maxRecDepth 100000 in
theorem lc_16 {p : Program} {l : Launch} {e : Env} {s : State} {m : MethodId} {below : List Frame} {meth : Method} {c : Code} {G : gG} {ax am : Nat → Nat} {b L : Nat} {xs : Nat → Int32} (C0 : lw_At p s m meth c b L xs) (hK : KK G s) (hN : NN s) (i : Nat) (hi : i + 5 ≤ L) (hL : L ≤ 2560) (kk : LKC p l e s m below meth c G ax am b i 1004) : LKC p l e s m below meth c G ax am b i 558 := by
  obtain ⟨hx, hb, hr, hml, hown, hts, hX, hbl, hlocks, hgv⟩ := C0
  have htl : ∀ w ∈ wsL_law, w.before #[Value.ref b] s = true := fun w h => hts w (wsL_law_in w h)
  have hown : s.vm.findClass RL = some m.cls := hown
  have hA : ∀ q : Nat, s.heap.size ≤ q → (fun q : Nat => s.heap.size ≤ q) q := fun _ h => h
  have hbA : ¬ (fun q : Nat => s.heap.size ≤ q) b := Nat.not_le.mpr hbl
  intro x wn wa w0 w1 rd wr z jj lt u lm sj hI H locs ls hP hD hS hl
  obtain ⟨sg, zz, hIS, hRX, hRM⟩ := hI
  obtain ⟨Mh, hMI⟩ := hRM.mix hIS
  have htx9 : rwE (rd.2 0) (u.2 9) (sg.1 10) := hRX.2.2.2.2.1.trans hRM.2.2.2.1.symm
  have hlet : ∀ i, i < sg.1 10 → ∃ j, j ≤ 255 ∧ u.2 9 i = nI j := fun i hi => by rw [hRM.2.2.2.1 i hi]; exact hIS.2.2.2.2.2.2.1 i hi
  have hin1 : vp_in (nI (i + 1)) L := vp_in_nI (by omega) (by omega)
  generalize ey1 : xs (nI (i + 1)).toNatClampNeg = y1
  have hin2 : vp_in (nI (i + 2)) L := vp_in_nI (by omega) (by omega)
  generalize ey2 : xs (nI (i + 2)).toNatClampNeg = y2
  have hin3 : vp_in (nI (i + 3)) L := vp_in_nI (by omega) (by omega)
  generalize ey3 : xs (nI (i + 3)).toNatClampNeg = y3
  refine lv_aload_n hx hb dL_law_558 rfl (lv_at hl 1 rfl) ?_
  refine lv_aload_n hx hb dL_law_559 rfl (lv_at hl 0 rfl) ?_
  refine lv_iload_n hx hb dL_law_560 rfl (lv_at hl 3 rfl) ?_
  refine lv_iconst (v := nI 1) hx hb dL_law_561 (by decide) ?_
  refine lv_iadd hx hb dL_law_562 ?_
  refine topE (y := nI (i + 1)) (nI_add i 1) ?_
  refine va_sld hx hb hX hbl hbA hS hin1 dL_law_563 ?_
  refine topE ey1 ?_
  refine lv_aload_n hx hb dL_law_564 rfl (lv_at hl 0 rfl) ?_
  refine lv_iload_n hx hb dL_law_565 rfl (lv_at hl 3 rfl) ?_
  refine lv_iconst (v := nI 2) hx hb dL_law_566 (by decide) ?_
  refine lv_iadd hx hb dL_law_567 ?_
  refine topE (y := nI (i + 2)) (nI_add i 2) ?_
  refine va_sld hx hb hX hbl hbA hS hin2 dL_law_568 ?_
  refine topE ey2 ?_
  refine lv_aload_n hx hb dL_law_569 rfl (lv_at hl 0 rfl) ?_
  refine lv_iload_n hx hb dL_law_570 rfl (lv_at hl 3 rfl) ?_
  refine lv_iconst (v := nI 3) hx hb dL_law_571 (by decide) ?_
  refine lv_iadd hx hb dL_law_572 ?_
  refine topE (y := nI (i + 3)) (nI_add i 3) ?_
  refine va_sld hx hb hX hbl hbA hS hin3 dL_law_573 ?_
  refine topE ey3 ?_
  refine cRi (w := xw G ax x wn wa w0 w1 rd wr z jj lt) (As := [.int y1, .int y2, .int y3]) (rest := []) ⟨hx, hb, hml, hown, htl⟩ (mt_X4_alikeS l G ax x wn wa w0 w1 rd wr z jj lt sg zz y1 y2 y3 hIS hRX) (cwV 3 htl gL_law_X4_alike rfl rfl rfl ⟨rfl, hd_X4_alike⟩ ⟨Nat.le_of_ble_eq_true rfl, Nat.le_of_ble_eq_true rfl⟩) hK hN (hP.sub [0, 1, 2, 3, 4, 5, 6, 7, 8, 9, 10, 11, 12, 13, 14, 15, 16, 17, 18, 19, 20, 21, 22, 23, 24, 25, 26, 27, 28, 29, 30, 31, 32, 33, 34, 35, 36, 37, 38, 39, 40, 41, 42, 43, 44, 45, 46, 47, 48, 49, 50, 51, 52, 53, 54] (lxf G ax am x wn wa w0 w1 rd wr z jj lt u lm sj)) 0 4 rfl rfl rfl hl.1 rfl (Nat.le_of_ble_eq_true rfl) ⟨Nat.le_of_ble_eq_true rfl, Nat.le_of_ble_eq_true rfl⟩ dL_law_574 (fun rX hwX => ?_)
  have hX2 := hwX
  refine lv_pop hx hb dL_law_577 rfl ?_
  refine lv_aload_n hx hb dL_law_578 rfl (lv_at hl 2 rfl) ?_
  refine lv_aload_n hx hb dL_law_579 rfl (lv_at hl 0 rfl) ?_
  refine lv_iload_n hx hb dL_law_580 rfl (lv_at hl 3 rfl) ?_
  refine lv_iconst (v := nI 1) hx hb dL_law_581 (by decide) ?_
  refine lv_iadd hx hb dL_law_582 ?_
  refine topE (y := nI (i + 1)) (nI_add i 1) ?_
  refine va_sld hx hb hX hbl hbA hS hin1 dL_law_583 ?_
  refine topE ey1 ?_
  refine lv_aload_n hx hb dL_law_584 rfl (lv_at hl 0 rfl) ?_
  refine lv_iload_n hx hb dL_law_585 rfl (lv_at hl 3 rfl) ?_
  refine lv_iconst (v := nI 2) hx hb dL_law_586 (by decide) ?_
  refine lv_iadd hx hb dL_law_587 ?_
  refine topE (y := nI (i + 2)) (nI_add i 2) ?_
  refine va_sld hx hb hX hbl hbA hS hin2 dL_law_588 ?_
  refine topE ey2 ?_
  refine lv_aload_n hx hb dL_law_589 rfl (lv_at hl 0 rfl) ?_
  refine lv_iload_n hx hb dL_law_590 rfl (lv_at hl 3 rfl) ?_
  refine lv_iconst (v := nI 3) hx hb dL_law_591 (by decide) ?_
  refine lv_iadd hx hb dL_law_592 ?_
  refine topE (y := nI (i + 3)) (nI_add i 3) ?_
  refine va_sld hx hb hX hbl hbA hS hin3 dL_law_593 ?_
  refine topE ey3 ?_
  refine cWi (As := [.int y1, .int y2, .int y3]) (rest := []) (S := oS × Int64 × (Nat → Int64)) (wa := LWd G ax am x wn wa w0 w1 rd wr z jj lt u lm sj) (wc := mw G am u lm sj) (w1 := fun v => mw G am v.1 v.2.1 v.2.2) (wa' := fun v => LWd G ax am x wn wa w0 w1 rd wr z jj lt v.1 v.2.1 v.2.2) ⟨hx, hb, hml, hown, htl⟩ (mt_X5_alikeS l G am _ u lm sj sg zz y1 y2 y3 Mh hMI hIS hRM) (cwV 3 htl gL_law_X5_alike rfl rfl rfl ⟨rfl, hd_X5_alike⟩ ⟨Nat.le_of_ble_eq_true rfl, Nat.le_of_ble_eq_true rfl⟩) hK hN hP hD hS hA [55, 56, 57, 58, 59, 60, 61, 62, 63, 64, 65, 66, 67, 68, 69, 70, 71, 72, 73, 74, 75, 76, 77, 78, 79, 80] (lmc G ax am x wn wa w0 w1 rd wr z jj lt u lm sj) (by decide) (lmf G ax am x wn wa w0 w1 rd wr z jj lt u lm sj) (fun v => lml G ax am x wn wa w0 w1 rd wr z jj lt u lm sj v) (fun v => lmo G ax am x wn wa w0 w1 rd wr z jj lt u lm sj v) (fun v => lmm G ax am x wn wa w0 w1 rd wr z jj lt u lm sj v) 0 5 rfl rfl rfl hl.1 rfl (Nat.le_of_ble_eq_true rfl) ⟨Nat.le_of_ble_eq_true rfl, Nat.le_of_ble_eq_true rfl⟩ dL_law_594 (fun rM vM H locs hwM hP hD hS => ?_)
  obtain ⟨u1, lm1, sj1⟩ := vM
  obtain ⟨hM1, hM2⟩ := hwM
  have hM1 : RepM u1 sj1 (sg) (zz) := hM1
  have hP : PP G (LWd G ax am x wn wa w0 w1 rd wr z jj lt u1 lm1 sj1) H := hP
  have hD : va_D (fun q : Nat => s.heap.size ≤ q) (LWd G ax am x wn wa w0 w1 rd wr z jj lt u1 lm1 sj1) := hD
  refine lv_pop hx hb dL_law_597 rfl ?_
  refine lv_goto (tgt := 1004) hx hb dL_law_598 (by decide) ?_
  exact kk x wn wa w0 w1 rd wr z jj lt u1 lm1 sj1 ⟨sg, zz, hIS, hRX, hM1⟩ _ _ ls hP hD hS hl
set_option maxHeartbeats 4000000 in
set_option maxRecDepth 100000 in
theorem lc_17 {p : Program} {l : Launch} {e : Env} {s : State} {m : MethodId} {below : List Frame} {meth : Method} {c : Code} {G : gG} {ax am : Nat → Nat} {b L : Nat} {xs : Nat → Int32} (C0 : lw_At p s m meth c b L xs) (hK : KK G s) (hN : NN s) (i : Nat) (hi : i + 5 ≤ L) (hL : L ≤ 2560) (kk : LKC p l e s m below meth c G ax am b i 1004) : LKC p l e s m below meth c G ax am b i 601 := by
  obtain ⟨hx, hb, hr, hml, hown, hts, hX, hbl, hlocks, hgv⟩ := C0
  have htl : ∀ w ∈ wsL_law, w.before #[Value.ref b] s = true := fun w h => hts w (wsL_law_in w h)
  have hown : s.vm.findClass RL = some m.cls := hown
  have hA : ∀ q : Nat, s.heap.size ≤ q → (fun q : Nat => s.heap.size ≤ q) q := fun _ h => h
  have hbA : ¬ (fun q : Nat => s.heap.size ≤ q) b := Nat.not_le.mpr hbl
  intro x wn wa w0 w1 rd wr z jj lt u lm sj hI H locs ls hP hD hS hl
  obtain ⟨sg, zz, hIS, hRX, hRM⟩ := hI
  obtain ⟨Mh, hMI⟩ := hRM.mix hIS
  have htx9 : rwE (rd.2 0) (u.2 9) (sg.1 10) := hRX.2.2.2.2.1.trans hRM.2.2.2.1.symm
  have hlet : ∀ i, i < sg.1 10 → ∃ j, j ≤ 255 ∧ u.2 9 i = nI j := fun i hi => by rw [hRM.2.2.2.1 i hi]; exact hIS.2.2.2.2.2.2.1 i hi
  have hin1 : vp_in (nI (i + 1)) L := vp_in_nI (by omega) (by omega)
  generalize ey1 : xs (nI (i + 1)).toNatClampNeg = y1
  have hin2 : vp_in (nI (i + 2)) L := vp_in_nI (by omega) (by omega)
  generalize ey2 : xs (nI (i + 2)).toNatClampNeg = y2
  refine lv_aload_n hx hb dL_law_601 rfl (lv_at hl 1 rfl) ?_
  refine lv_aload_n hx hb dL_law_602 rfl (lv_at hl 0 rfl) ?_
  refine lv_iload_n hx hb dL_law_603 rfl (lv_at hl 3 rfl) ?_
  refine lv_iconst (v := nI 1) hx hb dL_law_604 (by decide) ?_
  refine lv_iadd hx hb dL_law_605 ?_
  refine topE (y := nI (i + 1)) (nI_add i 1) ?_
  refine va_sld hx hb hX hbl hbA hS hin1 dL_law_606 ?_
  refine topE ey1 ?_
  refine lv_aload_n hx hb dL_law_607 rfl (lv_at hl 0 rfl) ?_
  refine lv_iload_n hx hb dL_law_608 rfl (lv_at hl 3 rfl) ?_
  refine lv_iconst (v := nI 2) hx hb dL_law_609 (by decide) ?_
  refine lv_iadd hx hb dL_law_610 ?_
  refine topE (y := nI (i + 2)) (nI_add i 2) ?_
  refine va_sld hx hb hX hbl hbA hS hin2 dL_law_611 ?_
  refine topE ey2 ?_
  refine cRi (w := xw G ax x wn wa w0 w1 rd wr z jj lt) (As := [.int y1, .int y2]) (rest := []) ⟨hx, hb, hml, hown, htl⟩ (mt_X4_withoutS l G ax x wn wa w0 w1 rd wr z jj lt sg zz y1 y2 hIS hRX) (cwV 2 htl gL_law_X4_without rfl rfl rfl ⟨rfl, hd_X4_without⟩ ⟨Nat.le_of_ble_eq_true rfl, Nat.le_of_ble_eq_true rfl⟩) hK hN (hP.sub [0, 1, 2, 3, 4, 5, 6, 7, 8, 9, 10, 11, 12, 13, 14, 15, 16, 17, 18, 19, 20, 21, 22, 23, 24, 25, 26, 27, 28, 29, 30, 31, 32, 33, 34, 35, 36, 37, 38, 39, 40, 41, 42, 43, 44, 45, 46, 47, 48, 49, 50, 51, 52, 53, 54] (lxf G ax am x wn wa w0 w1 rd wr z jj lt u lm sj)) 0 4 rfl rfl rfl hl.1 rfl (Nat.le_of_ble_eq_true rfl) ⟨Nat.le_of_ble_eq_true rfl, Nat.le_of_ble_eq_true rfl⟩ dL_law_612 (fun rX hwX => ?_)
  have hX2 := hwX
  refine lv_pop hx hb dL_law_615 rfl ?_
  refine lv_aload_n hx hb dL_law_616 rfl (lv_at hl 2 rfl) ?_
  refine lv_aload_n hx hb dL_law_617 rfl (lv_at hl 0 rfl) ?_
  refine lv_iload_n hx hb dL_law_618 rfl (lv_at hl 3 rfl) ?_
  refine lv_iconst (v := nI 1) hx hb dL_law_619 (by decide) ?_
  refine lv_iadd hx hb dL_law_620 ?_
  refine topE (y := nI (i + 1)) (nI_add i 1) ?_
  refine va_sld hx hb hX hbl hbA hS hin1 dL_law_621 ?_
  refine topE ey1 ?_
  refine lv_aload_n hx hb dL_law_622 rfl (lv_at hl 0 rfl) ?_
  refine lv_iload_n hx hb dL_law_623 rfl (lv_at hl 3 rfl) ?_
  refine lv_iconst (v := nI 2) hx hb dL_law_624 (by decide) ?_
  refine lv_iadd hx hb dL_law_625 ?_
  refine topE (y := nI (i + 2)) (nI_add i 2) ?_
  refine va_sld hx hb hX hbl hbA hS hin2 dL_law_626 ?_
  refine topE ey2 ?_
  refine cWi (As := [.int y1, .int y2]) (rest := []) (S := oS × Int64 × (Nat → Int64)) (wa := LWd G ax am x wn wa w0 w1 rd wr z jj lt u lm sj) (wc := mw G am u lm sj) (w1 := fun v => mw G am v.1 v.2.1 v.2.2) (wa' := fun v => LWd G ax am x wn wa w0 w1 rd wr z jj lt v.1 v.2.1 v.2.2) ⟨hx, hb, hml, hown, htl⟩ (mt_X5_withoutS l G am _ u lm sj sg zz y1 y2 Mh hMI hIS hRM) (cwV 2 htl gL_law_X5_without rfl rfl rfl ⟨rfl, hd_X5_without⟩ ⟨Nat.le_of_ble_eq_true rfl, Nat.le_of_ble_eq_true rfl⟩) hK hN hP hD hS hA [55, 56, 57, 58, 59, 60, 61, 62, 63, 64, 65, 66, 67, 68, 69, 70, 71, 72, 73, 74, 75, 76, 77, 78, 79, 80] (lmc G ax am x wn wa w0 w1 rd wr z jj lt u lm sj) (by decide) (lmf G ax am x wn wa w0 w1 rd wr z jj lt u lm sj) (fun v => lml G ax am x wn wa w0 w1 rd wr z jj lt u lm sj v) (fun v => lmo G ax am x wn wa w0 w1 rd wr z jj lt u lm sj v) (fun v => lmm G ax am x wn wa w0 w1 rd wr z jj lt u lm sj v) 0 5 rfl rfl rfl hl.1 rfl (Nat.le_of_ble_eq_true rfl) ⟨Nat.le_of_ble_eq_true rfl, Nat.le_of_ble_eq_true rfl⟩ dL_law_627 (fun rM vM H locs hwM hP hD hS => ?_)
  obtain ⟨u1, lm1, sj1⟩ := vM
  obtain ⟨hM1, hM2⟩ := hwM
  have hM1 : RepM u1 sj1 (sg) (zz) := hM1
  have hP : PP G (LWd G ax am x wn wa w0 w1 rd wr z jj lt u1 lm1 sj1) H := hP
  have hD : va_D (fun q : Nat => s.heap.size ≤ q) (LWd G ax am x wn wa w0 w1 rd wr z jj lt u1 lm1 sj1) := hD
  refine lv_pop hx hb dL_law_630 rfl ?_
  refine lv_goto (tgt := 1004) hx hb dL_law_631 (by decide) ?_
  exact kk x wn wa w0 w1 rd wr z jj lt u1 lm1 sj1 ⟨sg, zz, hIS, hRX, hM1⟩ _ _ ls hP hD hS hl
set_option maxHeartbeats 4000000 in
set_option maxRecDepth 100000 in
theorem lc_18 {p : Program} {l : Launch} {e : Env} {s : State} {m : MethodId} {below : List Frame} {meth : Method} {c : Code} {G : gG} {ax am : Nat → Nat} {b L : Nat} {xs : Nat → Int32} (C0 : lw_At p s m meth c b L xs) (hK : KK G s) (hN : NN s) (i : Nat) (hi : i + 5 ≤ L) (hL : L ≤ 2560) (kk : LKC p l e s m below meth c G ax am b i 1004) : LKC p l e s m below meth c G ax am b i 634 := by
  obtain ⟨hx, hb, hr, hml, hown, hts, hX, hbl, hlocks, hgv⟩ := C0
  have htl : ∀ w ∈ wsL_law, w.before #[Value.ref b] s = true := fun w h => hts w (wsL_law_in w h)
  have hown : s.vm.findClass RL = some m.cls := hown
  have hA : ∀ q : Nat, s.heap.size ≤ q → (fun q : Nat => s.heap.size ≤ q) q := fun _ h => h
  have hbA : ¬ (fun q : Nat => s.heap.size ≤ q) b := Nat.not_le.mpr hbl
  intro x wn wa w0 w1 rd wr z jj lt u lm sj hI H locs ls hP hD hS hl
  obtain ⟨sg, zz, hIS, hRX, hRM⟩ := hI
  obtain ⟨Mh, hMI⟩ := hRM.mix hIS
  have htx9 : rwE (rd.2 0) (u.2 9) (sg.1 10) := hRX.2.2.2.2.1.trans hRM.2.2.2.1.symm
  have hlet : ∀ i, i < sg.1 10 → ∃ j, j ≤ 255 ∧ u.2 9 i = nI j := fun i hi => by rw [hRM.2.2.2.1 i hi]; exact hIS.2.2.2.2.2.2.1 i hi
  have hin1 : vp_in (nI (i + 1)) L := vp_in_nI (by omega) (by omega)
  generalize ey1 : xs (nI (i + 1)).toNatClampNeg = y1
  have hin2 : vp_in (nI (i + 2)) L := vp_in_nI (by omega) (by omega)
  generalize ey2 : xs (nI (i + 2)).toNatClampNeg = y2
  refine lv_aload_n hx hb dL_law_634 rfl (lv_at hl 1 rfl) ?_
  refine lv_aload_n hx hb dL_law_635 rfl (lv_at hl 0 rfl) ?_
  refine lv_iload_n hx hb dL_law_636 rfl (lv_at hl 3 rfl) ?_
  refine lv_iconst (v := nI 1) hx hb dL_law_637 (by decide) ?_
  refine lv_iadd hx hb dL_law_638 ?_
  refine topE (y := nI (i + 1)) (nI_add i 1) ?_
  refine va_sld hx hb hX hbl hbA hS hin1 dL_law_639 ?_
  refine topE ey1 ?_
  refine lv_aload_n hx hb dL_law_640 rfl (lv_at hl 0 rfl) ?_
  refine lv_iload_n hx hb dL_law_641 rfl (lv_at hl 3 rfl) ?_
  refine lv_iconst (v := nI 2) hx hb dL_law_642 (by decide) ?_
  refine lv_iadd hx hb dL_law_643 ?_
  refine topE (y := nI (i + 2)) (nI_add i 2) ?_
  refine va_sld hx hb hX hbl hbA hS hin2 dL_law_644 ?_
  refine topE ey2 ?_
  refine cRi (w := xw G ax x wn wa w0 w1 rd wr z jj lt) (As := [.int y1, .int y2]) (rest := []) ⟨hx, hb, hml, hown, htl⟩ (mt_X4_nearS l G ax x wn wa w0 w1 rd wr z jj lt sg zz y1 y2 hIS hRX) (cwV 2 htl gL_law_X4_near rfl rfl rfl ⟨rfl, hd_X4_near⟩ ⟨Nat.le_of_ble_eq_true rfl, Nat.le_of_ble_eq_true rfl⟩) hK hN (hP.sub [0, 1, 2, 3, 4, 5, 6, 7, 8, 9, 10, 11, 12, 13, 14, 15, 16, 17, 18, 19, 20, 21, 22, 23, 24, 25, 26, 27, 28, 29, 30, 31, 32, 33, 34, 35, 36, 37, 38, 39, 40, 41, 42, 43, 44, 45, 46, 47, 48, 49, 50, 51, 52, 53, 54] (lxf G ax am x wn wa w0 w1 rd wr z jj lt u lm sj)) 0 4 rfl rfl rfl hl.1 rfl (Nat.le_of_ble_eq_true rfl) ⟨Nat.le_of_ble_eq_true rfl, Nat.le_of_ble_eq_true rfl⟩ dL_law_645 (fun rX hwX => ?_)
  have hX2 := hwX
  refine lv_pop hx hb dL_law_648 rfl ?_
  refine lv_aload_n hx hb dL_law_649 rfl (lv_at hl 2 rfl) ?_
  refine lv_aload_n hx hb dL_law_650 rfl (lv_at hl 0 rfl) ?_
  refine lv_iload_n hx hb dL_law_651 rfl (lv_at hl 3 rfl) ?_
  refine lv_iconst (v := nI 1) hx hb dL_law_652 (by decide) ?_
  refine lv_iadd hx hb dL_law_653 ?_
  refine topE (y := nI (i + 1)) (nI_add i 1) ?_
  refine va_sld hx hb hX hbl hbA hS hin1 dL_law_654 ?_
  refine topE ey1 ?_
  refine lv_aload_n hx hb dL_law_655 rfl (lv_at hl 0 rfl) ?_
  refine lv_iload_n hx hb dL_law_656 rfl (lv_at hl 3 rfl) ?_
  refine lv_iconst (v := nI 2) hx hb dL_law_657 (by decide) ?_
  refine lv_iadd hx hb dL_law_658 ?_
  refine topE (y := nI (i + 2)) (nI_add i 2) ?_
  refine va_sld hx hb hX hbl hbA hS hin2 dL_law_659 ?_
  refine topE ey2 ?_
  refine cRi (w := mw G am u lm sj) (As := [.int y1, .int y2]) (rest := []) ⟨hx, hb, hml, hown, htl⟩ (mt_X5_nearS l G am u lm sj sg zz y1 y2 Mh hMI hIS hRM) (cwV 2 htl gL_law_X5_near rfl rfl rfl ⟨rfl, hd_X5_near⟩ ⟨Nat.le_of_ble_eq_true rfl, Nat.le_of_ble_eq_true rfl⟩) hK hN (hP.sub [55, 56, 57, 58, 59, 60, 61, 62, 63, 64, 65, 66, 67, 68, 69, 70, 71, 72, 73, 74, 75, 76, 77, 78, 79, 80] (lmf G ax am x wn wa w0 w1 rd wr z jj lt u lm sj)) 0 5 rfl rfl rfl hl.1 rfl (Nat.le_of_ble_eq_true rfl) ⟨Nat.le_of_ble_eq_true rfl, Nat.le_of_ble_eq_true rfl⟩ dL_law_660 (fun rM hwM => ?_)
  have hM2 := hwM
  refine lv_pop hx hb dL_law_663 rfl ?_
  refine lv_goto (tgt := 1004) hx hb dL_law_664 (by decide) ?_
  exact kk x wn wa w0 w1 rd wr z jj lt u lm sj ⟨sg, zz, hIS, hRX, hRM⟩ _ _ ls hP hD hS hl
set_option maxHeartbeats 4000000 in
set_option maxRecDepth 100000 in
theorem lc_19 {p : Program} {l : Launch} {e : Env} {s : State} {m : MethodId} {below : List Frame} {meth : Method} {c : Code} {G : gG} {ax am : Nat → Nat} {b L : Nat} {xs : Nat → Int32} (C0 : lw_At p s m meth c b L xs) (hK : KK G s) (hN : NN s) (i : Nat) (hi : i + 5 ≤ L) (hL : L ≤ 2560) (kk : LKC p l e s m below meth c G ax am b i 1004) : LKC p l e s m below meth c G ax am b i 667 := by
  obtain ⟨hx, hb, hr, hml, hown, hts, hX, hbl, hlocks, hgv⟩ := C0
  have htl : ∀ w ∈ wsL_law, w.before #[Value.ref b] s = true := fun w h => hts w (wsL_law_in w h)
  have hown : s.vm.findClass RL = some m.cls := hown
  have hA : ∀ q : Nat, s.heap.size ≤ q → (fun q : Nat => s.heap.size ≤ q) q := fun _ h => h
  have hbA : ¬ (fun q : Nat => s.heap.size ≤ q) b := Nat.not_le.mpr hbl
  intro x wn wa w0 w1 rd wr z jj lt u lm sj hI H locs ls hP hD hS hl
  obtain ⟨sg, zz, hIS, hRX, hRM⟩ := hI
  obtain ⟨Mh, hMI⟩ := hRM.mix hIS
  have htx9 : rwE (rd.2 0) (u.2 9) (sg.1 10) := hRX.2.2.2.2.1.trans hRM.2.2.2.1.symm
  have hlet : ∀ i, i < sg.1 10 → ∃ j, j ≤ 255 ∧ u.2 9 i = nI j := fun i hi => by rw [hRM.2.2.2.1 i hi]; exact hIS.2.2.2.2.2.2.1 i hi
  have hin1 : vp_in (nI (i + 1)) L := vp_in_nI (by omega) (by omega)
  generalize ey1 : xs (nI (i + 1)).toNatClampNeg = y1
  have hin2 : vp_in (nI (i + 2)) L := vp_in_nI (by omega) (by omega)
  generalize ey2 : xs (nI (i + 2)).toNatClampNeg = y2
  refine lv_aload_n hx hb dL_law_667 rfl (lv_at hl 1 rfl) ?_
  refine lv_aload_n hx hb dL_law_668 rfl (lv_at hl 0 rfl) ?_
  refine lv_iload_n hx hb dL_law_669 rfl (lv_at hl 3 rfl) ?_
  refine lv_iconst (v := nI 1) hx hb dL_law_670 (by decide) ?_
  refine lv_iadd hx hb dL_law_671 ?_
  refine topE (y := nI (i + 1)) (nI_add i 1) ?_
  refine va_sld hx hb hX hbl hbA hS hin1 dL_law_672 ?_
  refine topE ey1 ?_
  refine lv_aload_n hx hb dL_law_673 rfl (lv_at hl 0 rfl) ?_
  refine lv_iload_n hx hb dL_law_674 rfl (lv_at hl 3 rfl) ?_
  refine lv_iconst (v := nI 2) hx hb dL_law_675 (by decide) ?_
  refine lv_iadd hx hb dL_law_676 ?_
  refine topE (y := nI (i + 2)) (nI_add i 2) ?_
  refine va_sld hx hb hX hbl hbA hS hin2 dL_law_677 ?_
  refine topE ey2 ?_
  refine cRi (w := xw G ax x wn wa w0 w1 rd wr z jj lt) (As := [.int y1, .int y2]) (rest := []) ⟨hx, hb, hml, hown, htl⟩ (mt_X4_block l G ax x wn wa w0 w1 rd wr z jj lt (sg.1 0) (sg.1 4) y1 y2 hRX.1.1 hRX.1.2.1 hIS.1 hIS.2.1) (cwV 2 htl gL_law_X4_block rfl rfl rfl ⟨rfl, hd_X4_block⟩ ⟨Nat.le_of_ble_eq_true rfl, Nat.le_of_ble_eq_true rfl⟩) hK hN (hP.sub [0, 1, 2, 3, 4, 5, 6, 7, 8, 9, 10, 11, 12, 13, 14, 15, 16, 17, 18, 19, 20, 21, 22, 23, 24, 25, 26, 27, 28, 29, 30, 31, 32, 33, 34, 35, 36, 37, 38, 39, 40, 41, 42, 43, 44, 45, 46, 47, 48, 49, 50, 51, 52, 53, 54] (lxf G ax am x wn wa w0 w1 rd wr z jj lt u lm sj)) 0 4 rfl rfl rfl hl.1 rfl (Nat.le_of_ble_eq_true rfl) ⟨Nat.le_of_ble_eq_true rfl, Nat.le_of_ble_eq_true rfl⟩ dL_law_678 (fun rX hwX => ?_)
  refine lv_pop hx hb dL_law_681 rfl ?_
  refine lv_aload_n hx hb dL_law_682 rfl (lv_at hl 2 rfl) ?_
  refine lv_aload_n hx hb dL_law_683 rfl (lv_at hl 0 rfl) ?_
  refine lv_iload_n hx hb dL_law_684 rfl (lv_at hl 3 rfl) ?_
  refine lv_iconst (v := nI 1) hx hb dL_law_685 (by decide) ?_
  refine lv_iadd hx hb dL_law_686 ?_
  refine topE (y := nI (i + 1)) (nI_add i 1) ?_
  refine va_sld hx hb hX hbl hbA hS hin1 dL_law_687 ?_
  refine topE ey1 ?_
  refine lv_aload_n hx hb dL_law_688 rfl (lv_at hl 0 rfl) ?_
  refine lv_iload_n hx hb dL_law_689 rfl (lv_at hl 3 rfl) ?_
  refine lv_iconst (v := nI 2) hx hb dL_law_690 (by decide) ?_
  refine lv_iadd hx hb dL_law_691 ?_
  refine topE (y := nI (i + 2)) (nI_add i 2) ?_
  refine va_sld hx hb hX hbl hbA hS hin2 dL_law_692 ?_
  refine topE ey2 ?_
  refine cRi (w := mw G am u lm sj) (As := [.int y1, .int y2]) (rest := []) ⟨hx, hb, hml, hown, htl⟩ (mt_X5_block l G am u lm sj (sg.1 4) y1 y2 hRM.1.2.1 hIS.2.1) (cwV 2 htl gL_law_X5_block rfl rfl rfl ⟨rfl, hd_X5_block⟩ ⟨Nat.le_of_ble_eq_true rfl, Nat.le_of_ble_eq_true rfl⟩) hK hN (hP.sub [55, 56, 57, 58, 59, 60, 61, 62, 63, 64, 65, 66, 67, 68, 69, 70, 71, 72, 73, 74, 75, 76, 77, 78, 79, 80] (lmf G ax am x wn wa w0 w1 rd wr z jj lt u lm sj)) 0 5 rfl rfl rfl hl.1 rfl (Nat.le_of_ble_eq_true rfl) ⟨Nat.le_of_ble_eq_true rfl, Nat.le_of_ble_eq_true rfl⟩ dL_law_693 (fun rM hwM => ?_)
  refine lv_pop hx hb dL_law_696 rfl ?_
  refine lv_goto (tgt := 1004) hx hb dL_law_697 (by decide) ?_
  exact kk x wn wa w0 w1 rd wr z jj lt u lm sj ⟨sg, zz, hIS, hRX, hRM⟩ _ _ ls hP hD hS hl
