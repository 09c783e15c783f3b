set_option maxHeartbeats 4000000 in
set_option maxRecDepth 100000 in
theorem lc_0 {p : Program} {l : Launch} {e : Env} {s : State} {m : MethodId} {below : List Frame} {meth : Method} {c : Code} {G : gG} {ax am : Nat → Nat} {b L : Nat} {xs : Nat → Int32} (C0 : lw_At p s m meth c b L xs) (hK : KK G s) (hN : NN s) (i : Nat) (hi : i + 5 ≤ L) (hL : L ≤ 2560) (kk : LKC p l e s m below meth c G ax am b i 1004) : LKC p l e s m below meth c G ax am b i 160 := by
  obtain ⟨hx, hb, hr, hml, hown, hts, hX, hbl, hlocks, hgv⟩ := C0
  have htl : ∀ w ∈ wsL_law, w.before #[Value.ref b] s = true := fun w h => hts w (wsL_law_in w h)
  have hown : s.vm.findClass RL = some m.cls := hown
  have hA : ∀ q : Nat, s.heap.size ≤ q → (fun q : Nat => s.heap.size ≤ q) q := fun _ h => h
  have hbA : ¬ (fun q : Nat => s.heap.size ≤ q) b := Nat.not_le.mpr hbl
  intro x wn wa w0 w1 rd wr z jj lt u lm sj hI H locs ls hP hD hS hl
  obtain ⟨sg, zz, hIS, hRX, hRM⟩ := hI
  obtain ⟨Mh, hMI⟩ := hRM.mix hIS
  have htx9 : rwE (rd.2 0) (u.2 9) (sg.1 10) := hRX.2.2.2.2.1.trans hRM.2.2.2.1.symm
  have hlet : ∀ i, i < sg.1 10 → ∃ j, j ≤ 255 ∧ u.2 9 i = nI j := fun i hi => by rw [hRM.2.2.2.1 i hi]; exact hIS.2.2.2.2.2.2.1 i hi
  have hin1 : vp_in (nI (i + 1)) L := vp_in_nI (by omega) (by omega)
  generalize ey1 : xs (nI (i + 1)).toNatClampNeg = y1
  refine lv_aload_n hx hb dL_law_160 rfl (lv_at hl 1 rfl) ?_
  refine lv_aload_n hx hb dL_law_161 rfl (lv_at hl 0 rfl) ?_
  refine lv_iload_n hx hb dL_law_162 rfl (lv_at hl 3 rfl) ?_
  refine lv_iconst (v := nI 1) hx hb dL_law_163 (by decide) ?_
  refine lv_iadd hx hb dL_law_164 ?_
  refine topE (y := nI (i + 1)) (nI_add i 1) ?_
  refine va_sld hx hb hX hbl hbA hS hin1 dL_law_165 ?_
  refine topE ey1 ?_
  refine cWi (As := [.int y1]) (rest := []) (S := oS × oS × oS × oS × oS × oS × oS × oS × (Nat → Nat → Int64) × Int64) (wa := LWd G ax am x wn wa w0 w1 rd wr z jj lt u lm sj) (wc := xw G ax x wn wa w0 w1 rd wr z jj lt) (w1 := fun v => xw G ax v.1 v.2.1 v.2.2.1 v.2.2.2.1 v.2.2.2.2.1 v.2.2.2.2.2.1 v.2.2.2.2.2.2.1 v.2.2.2.2.2.2.2.1 v.2.2.2.2.2.2.2.2.1 v.2.2.2.2.2.2.2.2.2) (wa' := fun v => LWd G ax am v.1 v.2.1 v.2.2.1 v.2.2.2.1 v.2.2.2.2.1 v.2.2.2.2.2.1 v.2.2.2.2.2.2.1 v.2.2.2.2.2.2.2.1 v.2.2.2.2.2.2.2.2.1 v.2.2.2.2.2.2.2.2.2 u lm sj) ⟨hx, hb, hml, hown, htl⟩ (mt_X4_feedS l G ax _ x wn wa w0 w1 rd wr z jj lt sg zz y1 hIS hRX) (cwV 1 htl gL_law_X4_feed rfl rfl rfl ⟨rfl, hd_X4_feed⟩ ⟨Nat.le_of_ble_eq_true rfl, Nat.le_of_ble_eq_true rfl⟩) hK hN hP hD hS hA [0, 1, 2, 3, 4, 5, 6, 7, 8, 9, 10, 11, 12, 13, 14, 15, 16, 17, 18, 19, 20, 21, 22, 23, 24, 25, 26, 27, 28, 29, 30, 31, 32, 33, 34, 35, 36, 37, 38, 39, 40, 41, 42, 43, 44, 45, 46, 47, 48, 49, 50, 51, 52, 53, 54] (lxc G ax am x wn wa w0 w1 rd wr z jj lt u lm sj) (by decide) (lxf G ax am x wn wa w0 w1 rd wr z jj lt u lm sj) (fun v => lxl G ax am x wn wa w0 w1 rd wr z jj lt u lm sj v) (fun v => lxo G ax am x wn wa w0 w1 rd wr z jj lt u lm sj v) (fun v => lxm G ax am x wn wa w0 w1 rd wr z jj lt u lm sj v) 0 4 rfl rfl rfl hl.1 rfl (Nat.le_of_ble_eq_true rfl) ⟨Nat.le_of_ble_eq_true rfl, Nat.le_of_ble_eq_true rfl⟩ dL_law_166 (fun rX vX H locs hwX hP hD hS => ?_)
  obtain ⟨x1, wn1, wa1, w01, w11, rd1, wr1, z1, jj1, lt1⟩ := vX
  obtain ⟨hX1, hX2⟩ := hwX
  have hX1 : RepX x1 wn1 wa1 w01 w11 rd1 z1 jj1 (feeF sg y1) (zz) := hX1
  have hP : PP G (LWd G ax am x1 wn1 wa1 w01 w11 rd1 wr1 z1 jj1 lt1 u lm sj) H := hP
  have hD : va_D (fun q : Nat => s.heap.size ≤ q) (LWd G ax am x1 wn1 wa1 w01 w11 rd1 wr1 z1 jj1 lt1 u lm sj) := hD
  refine lv_pop hx hb dL_law_169 rfl ?_
  refine lv_aload_n hx hb dL_law_170 rfl (lv_at hl 2 rfl) ?_
  refine lv_aload_n hx hb dL_law_171 rfl (lv_at hl 0 rfl) ?_
  refine lv_iload_n hx hb dL_law_172 rfl (lv_at hl 3 rfl) ?_
  refine lv_iconst (v := nI 1) hx hb dL_law_173 (by decide) ?_
  refine lv_iadd hx hb dL_law_174 ?_
  refine topE (y := nI (i + 1)) (nI_add i 1) ?_
  refine va_sld hx hb hX hbl hbA hS hin1 dL_law_175 ?_
  refine topE ey1 ?_
  refine cWi (As := [.int y1]) (rest := []) (S := oS × Int64 × (Nat → Int64)) (wa := LWd G ax am x1 wn1 wa1 w01 w11 rd1 wr1 z1 jj1 lt1 u lm sj) (wc := mw G am u lm sj) (w1 := fun v => mw G am v.1 v.2.1 v.2.2) (wa' := fun v => LWd G ax am x1 wn1 wa1 w01 w11 rd1 wr1 z1 jj1 lt1 v.1 v.2.1 v.2.2) ⟨hx, hb, hml, hown, htl⟩ (mt_X5_feedS l G am _ u lm sj sg zz y1 Mh hMI hIS hRM) (cwV 1 htl gL_law_X5_feed rfl rfl rfl ⟨rfl, hd_X5_feed⟩ ⟨Nat.le_of_ble_eq_true rfl, Nat.le_of_ble_eq_true rfl⟩) hK hN hP hD hS hA [55, 56, 57, 58, 59, 60, 61, 62, 63, 64, 65, 66, 67, 68, 69, 70, 71, 72, 73, 74, 75, 76, 77, 78, 79, 80] (lmc G ax am x1 wn1 wa1 w01 w11 rd1 wr1 z1 jj1 lt1 u lm sj) (by decide) (lmf G ax am x1 wn1 wa1 w01 w11 rd1 wr1 z1 jj1 lt1 u lm sj) (fun v => lml G ax am x1 wn1 wa1 w01 w11 rd1 wr1 z1 jj1 lt1 u lm sj v) (fun v => lmo G ax am x1 wn1 wa1 w01 w11 rd1 wr1 z1 jj1 lt1 u lm sj v) (fun v => lmm G ax am x1 wn1 wa1 w01 w11 rd1 wr1 z1 jj1 lt1 u lm sj v) 0 5 rfl rfl rfl hl.1 rfl (Nat.le_of_ble_eq_true rfl) ⟨Nat.le_of_ble_eq_true rfl, Nat.le_of_ble_eq_true rfl⟩ dL_law_176 (fun rM vM H locs hwM hP hD hS => ?_)
  obtain ⟨u1, lm1, sj1⟩ := vM
  obtain ⟨hM1, hM2⟩ := hwM
  have hM1 : RepM u1 sj1 (feeF sg y1) (zz) := hM1
  have hP : PP G (LWd G ax am x1 wn1 wa1 w01 w11 rd1 wr1 z1 jj1 lt1 u1 lm1 sj1) H := hP
  have hD : va_D (fun q : Nat => s.heap.size ≤ q) (LWd G ax am x1 wn1 wa1 w01 w11 rd1 wr1 z1 jj1 lt1 u1 lm1 sj1) := hD
  refine lv_pop hx hb dL_law_179 rfl ?_
  refine lv_goto (tgt := 1004) hx hb dL_law_180 (by decide) ?_
  exact kk x1 wn1 wa1 w01 w11 rd1 wr1 z1 jj1 lt1 u1 lm1 sj1 ⟨feeF sg y1, zz, IS_feeF hIS, hX1, hM1⟩ _ _ ls hP hD hS hl
set_option maxHeartbeats 4000000 in
set_option maxRecDepth 100000 in
theorem lc_1 {p : Program} {l : Launch} {e : Env} {s : State} {m : MethodId} {below : List Frame} {meth : Method} {c : Code} {G : gG} {ax am : Nat → Nat} {b L : Nat} {xs : Nat → Int32} (C0 : lw_At p s m meth c b L xs) (hK : KK G s) (hN : NN s) (i : Nat) (hi : i + 5 ≤ L) (hL : L ≤ 2560) (kk : LKC p l e s m below meth c G ax am b i 1004) : LKC p l e s m below meth c G ax am b i 183 := by
  obtain ⟨hx, hb, hr, hml, hown, hts, hX, hbl, hlocks, hgv⟩ := C0
  have htl : ∀ w ∈ wsL_law, w.before #[Value.ref b] s = true := fun w h => hts w (wsL_law_in w h)
  have hown : s.vm.findClass RL = some m.cls := hown
  have hA : ∀ q : Nat, s.heap.size ≤ q → (fun q : Nat => s.heap.size ≤ q) q := fun _ h => h
  have hbA : ¬ (fun q : Nat => s.heap.size ≤ q) b := Nat.not_le.mpr hbl
  intro x wn wa w0 w1 rd wr z jj lt u lm sj hI H locs ls hP hD hS hl
  obtain ⟨sg, zz, hIS, hRX, hRM⟩ := hI
  obtain ⟨Mh, hMI⟩ := hRM.mix hIS
  have htx9 : rwE (rd.2 0) (u.2 9) (sg.1 10) := hRX.2.2.2.2.1.trans hRM.2.2.2.1.symm
  have hlet : ∀ i, i < sg.1 10 → ∃ j, j ≤ 255 ∧ u.2 9 i = nI j := fun i hi => by rw [hRM.2.2.2.1 i hi]; exact hIS.2.2.2.2.2.2.1 i hi
  refine lv_aload_n hx hb dL_law_183 rfl (lv_at hl 1 rfl) ?_
  refine cWi (As := []) (rest := []) (S := oS × oS × oS × oS × oS × oS × oS × oS × (Nat → Nat → Int64) × Int64) (wa := LWd G ax am x wn wa w0 w1 rd wr z jj lt u lm sj) (wc := xw G ax x wn wa w0 w1 rd wr z jj lt) (w1 := fun v => xw G ax v.1 v.2.1 v.2.2.1 v.2.2.2.1 v.2.2.2.2.1 v.2.2.2.2.2.1 v.2.2.2.2.2.2.1 v.2.2.2.2.2.2.2.1 v.2.2.2.2.2.2.2.2.1 v.2.2.2.2.2.2.2.2.2) (wa' := fun v => LWd G ax am v.1 v.2.1 v.2.2.1 v.2.2.2.1 v.2.2.2.2.1 v.2.2.2.2.2.1 v.2.2.2.2.2.2.1 v.2.2.2.2.2.2.2.1 v.2.2.2.2.2.2.2.2.1 v.2.2.2.2.2.2.2.2.2 u lm sj) ⟨hx, hb, hml, hown, htl⟩ (mt_X4_weaveS l G ax _ x wn wa w0 w1 rd wr z jj lt sg zz (u.2 9) hIS hRX htx9 hlet) (cwV 0 htl gL_law_X4_weave rfl rfl rfl ⟨rfl, hd_X4_weave⟩ ⟨Nat.le_of_ble_eq_true rfl, Nat.le_of_ble_eq_true rfl⟩) hK hN hP hD hS hA [0, 1, 2, 3, 4, 5, 6, 7, 8, 9, 10, 11, 12, 13, 14, 15, 16, 17, 18, 19, 20, 21, 22, 23, 24, 25, 26, 27, 28, 29, 30, 31, 32, 33, 34, 35, 36, 37, 38, 39, 40, 41, 42, 43, 44, 45, 46, 47, 48, 49, 50, 51, 52, 53, 54] (lxc G ax am x wn wa w0 w1 rd wr z jj lt u lm sj) (by decide) (lxf G ax am x wn wa w0 w1 rd wr z jj lt u lm sj) (fun v => lxl G ax am x wn wa w0 w1 rd wr z jj lt u lm sj v) (fun v => lxo G ax am x wn wa w0 w1 rd wr z jj lt u lm sj v) (fun v => lxm G ax am x wn wa w0 w1 rd wr z jj lt u lm sj v) 0 4 rfl rfl rfl hl.1 rfl (Nat.le_of_ble_eq_true rfl) ⟨Nat.le_of_ble_eq_true rfl, Nat.le_of_ble_eq_true rfl⟩ dL_law_184 (fun rX vX H locs hwX hP hD hS => ?_)
  obtain ⟨x1, wn1, wa1, w01, w11, rd1, wr1, z1, jj1, lt1⟩ := vX
  obtain ⟨rsX, hEX, hX1, hbX, hX2⟩ := hwX
  have hX1 : RepX x1 wn1 wa1 w01 w11 rd1 z1 jj1 (wovF sg rsX) (zz) := hX1
  have hP : PP G (LWd G ax am x1 wn1 wa1 w01 w11 rd1 wr1 z1 jj1 lt1 u lm sj) H := hP
  have hD : va_D (fun q : Nat => s.heap.size ≤ q) (LWd G ax am x1 wn1 wa1 w01 w11 rd1 wr1 z1 jj1 lt1 u lm sj) := hD
  refine lv_pop hx hb dL_law_187 rfl ?_
  refine lv_aload_n hx hb dL_law_188 rfl (lv_at hl 2 rfl) ?_
  refine cWi (As := []) (rest := []) (S := oS × Int64 × (Nat → Int64)) (wa := LWd G ax am x1 wn1 wa1 w01 w11 rd1 wr1 z1 jj1 lt1 u lm sj) (wc := mw G am u lm sj) (w1 := fun v => mw G am v.1 v.2.1 v.2.2) (wa' := fun v => LWd G ax am x1 wn1 wa1 w01 w11 rd1 wr1 z1 jj1 lt1 v.1 v.2.1 v.2.2) ⟨hx, hb, hml, hown, htl⟩ (mt_X5_weaveS l G am _ u lm sj (u.2 9) (sg.1 0) (sg.1 4) (sg.1 10) Mh hMI rfl hlet) (cwV 0 htl gL_law_X5_weave rfl rfl rfl ⟨rfl, hd_X5_weave⟩ ⟨Nat.le_of_ble_eq_true rfl, Nat.le_of_ble_eq_true rfl⟩) hK hN hP hD hS hA [55, 56, 57, 58, 59, 60, 61, 62, 63, 64, 65, 66, 67, 68, 69, 70, 71, 72, 73, 74, 75, 76, 77, 78, 79, 80] (lmc G ax am x1 wn1 wa1 w01 w11 rd1 wr1 z1 jj1 lt1 u lm sj) (by decide) (lmf G ax am x1 wn1 wa1 w01 w11 rd1 wr1 z1 jj1 lt1 u lm sj) (fun v => lml G ax am x1 wn1 wa1 w01 w11 rd1 wr1 z1 jj1 lt1 u lm sj v) (fun v => lmo G ax am x1 wn1 wa1 w01 w11 rd1 wr1 z1 jj1 lt1 u lm sj v) (fun v => lmm G ax am x1 wn1 wa1 w01 w11 rd1 wr1 z1 jj1 lt1 u lm sj v) 0 5 rfl rfl rfl hl.1 rfl (Nat.le_of_ble_eq_true rfl) ⟨Nat.le_of_ble_eq_true rfl, Nat.le_of_ble_eq_true rfl⟩ dL_law_189 (fun rM vM H locs hwM hP hD hS => ?_)
  obtain ⟨u1, lm1, sj1⟩ := vM
  obtain ⟨⟨rsM, hEM, k10, -, -, -, hcM⟩, hv2⟩ := hwM
  have esj : sj1 = sj := congrArg Prod.snd hv2
  have hrs : rsX = rsM := pEv_det hEX hEM
  have hM1 : RepM u1 sj1 (wovF sg rsX) zz := by
    rw [hrs, esj]
    rcases hcM with ⟨h0, h1, h2, h3⟩ | ⟨h0, h1, h2, h3⟩
    · rw [wovF, if_neg h0]; exact RepM_bad hRM k10 h2 h3
    · rw [wovF, if_pos h0]; exact RepM_wov hRM k10 h2 h3
  have hM2 : rM = wovA rsX := by
    rw [hrs]
    rcases hcM with ⟨h0, h1, -⟩ | ⟨h0, h1, -⟩
    · rw [wovA, if_neg h0]; exact h1
    · rw [wovA, if_pos h0]; exact h1
  have hIF : IS (wovF sg rsX) := by
    by_cases h0 : rsX.1 = 0
    · obtain ⟨q1, q2, q3⟩ := hbX h0
      rw [wovF, if_pos h0]; exact IS_wov hIS q1 q2 q3
    · rw [wovF, if_neg h0]; exact IS_bad hIS
  have hM1 : RepM u1 sj1 (wovF sg rsX) (zz) := hM1
  have hP : PP G (LWd G ax am x1 wn1 wa1 w01 w11 rd1 wr1 z1 jj1 lt1 u1 lm1 sj1) H := hP
  have hD : va_D (fun q : Nat => s.heap.size ≤ q) (LWd G ax am x1 wn1 wa1 w01 w11 rd1 wr1 z1 jj1 lt1 u1 lm1 sj1) := hD
  refine lv_pop hx hb dL_law_192 rfl ?_
  refine lv_goto (tgt := 1004) hx hb dL_law_193 (by decide) ?_
  exact kk x1 wn1 wa1 w01 w11 rd1 wr1 z1 jj1 lt1 u1 lm1 sj1 ⟨wovF sg rsX, zz, hIF, hX1, hM1⟩ _ _ ls hP hD hS hl
set_option maxHeartbeats 4000000 in
set_option maxRecDepth 100000 in
theorem lc_2 {p : Program} {l : Launch} {e : Env} {s : State} {m : MethodId} {below : List Frame} {meth : Method} {c : Code} {G : gG} {ax am : Nat → Nat} {b L : Nat} {xs : Nat → Int32} (C0 : lw_At p s m meth c b L xs) (hK : KK G s) (hN : NN s) (i : Nat) (hi : i + 5 ≤ L) (hL : L ≤ 2560) (kk : LKC p l e s m below meth c G ax am b i 1004) : LKC p l e s m below meth c G ax am b i 196 := by
  obtain ⟨hx, hb, hr, hml, hown, hts, hX, hbl, hlocks, hgv⟩ := C0
  have htl : ∀ w ∈ wsL_law, w.before #[Value.ref b] s = true := fun w h => hts w (wsL_law_in w h)
  have hown : s.vm.findClass RL = some m.cls := hown
  have hA : ∀ q : Nat, s.heap.size ≤ q → (fun q : Nat => s.heap.size ≤ q) q := fun _ h => h
  have hbA : ¬ (fun q : Nat => s.heap.size ≤ q) b := Nat.not_le.mpr hbl
  intro x wn wa w0 w1 rd wr z jj lt u lm sj hI H locs ls hP hD hS hl
  obtain ⟨sg, zz, hIS, hRX, hRM⟩ := hI
  obtain ⟨Mh, hMI⟩ := hRM.mix hIS
  have htx9 : rwE (rd.2 0) (u.2 9) (sg.1 10) := hRX.2.2.2.2.1.trans hRM.2.2.2.1.symm
  have hlet : ∀ i, i < sg.1 10 → ∃ j, j ≤ 255 ∧ u.2 9 i = nI j := fun i hi => by rw [hRM.2.2.2.1 i hi]; exact hIS.2.2.2.2.2.2.1 i hi
  refine lv_aload_n hx hb dL_law_196 rfl (lv_at hl 1 rfl) ?_
  refine cRi (w := xw G ax x wn wa w0 w1 rd wr z jj lt) (As := []) (rest := []) ⟨hx, hb, hml, hown, htl⟩ (mt_X4_fault l G ax x wn wa w0 w1 rd wr z jj lt (sg.1 0) (sg.1 4) hRX.1.1 hRX.1.2.1 hIS.1 hIS.2.1) (cwV 0 htl gL_law_X4_fault rfl rfl rfl ⟨rfl, hd_X4_fault⟩ ⟨Nat.le_of_ble_eq_true rfl, Nat.le_of_ble_eq_true rfl⟩) hK hN (hP.sub [0, 1, 2, 3, 4, 5, 6, 7, 8, 9, 10, 11, 12, 13, 14, 15, 16, 17, 18, 19, 20, 21, 22, 23, 24, 25, 26, 27, 28, 29, 30, 31, 32, 33, 34, 35, 36, 37, 38, 39, 40, 41, 42, 43, 44, 45, 46, 47, 48, 49, 50, 51, 52, 53, 54] (lxf G ax am x wn wa w0 w1 rd wr z jj lt u lm sj)) 0 4 rfl rfl rfl hl.1 rfl (Nat.le_of_ble_eq_true rfl) ⟨Nat.le_of_ble_eq_true rfl, Nat.le_of_ble_eq_true rfl⟩ dL_law_197 (fun rX hwX => ?_)
  have hX2 := hwX.trans hRX.2.2.2.2.2.1
  refine lv_pop hx hb dL_law_200 rfl ?_
  refine lv_aload_n hx hb dL_law_201 rfl (lv_at hl 2 rfl) ?_
  refine cRi (w := mw G am u lm sj) (As := []) (rest := []) ⟨hx, hb, hml, hown, htl⟩ (mt_X5_fault l G am u lm sj) (cwV 0 htl gL_law_X5_fault rfl rfl rfl ⟨rfl, hd_X5_fault⟩ ⟨Nat.le_of_ble_eq_true rfl, Nat.le_of_ble_eq_true rfl⟩) hK hN (hP.sub [55, 56, 57, 58, 59, 60, 61, 62, 63, 64, 65, 66, 67, 68, 69, 70, 71, 72, 73, 74, 75, 76, 77, 78, 79, 80] (lmf G ax am x wn wa w0 w1 rd wr z jj lt u lm sj)) 0 5 rfl rfl rfl hl.1 rfl (Nat.le_of_ble_eq_true rfl) ⟨Nat.le_of_ble_eq_true rfl, Nat.le_of_ble_eq_true rfl⟩ dL_law_202 (fun rM hwM => ?_)
  have hM2 := hwM.trans hRM.2.2.2.2.1
  refine lv_pop hx hb dL_law_205 rfl ?_
  refine lv_goto (tgt := 1004) hx hb dL_law_206 (by decide) ?_
  exact kk x wn wa w0 w1 rd wr z jj lt u lm sj ⟨sg, zz, hIS, hRX, hRM⟩ _ _ ls hP hD hS hl
set_option maxHeartbeats 4000000 in
set_option maxRecDepth 100000 in
theorem lc_3 {p : Program} {l : Launch} {e : Env} {s : State} {m : MethodId} {below : List Frame} {meth : Method} {c : Code} {G : gG} {ax am : Nat → Nat} {b L : Nat} {xs : Nat → Int32} (C0 : lw_At p s m meth c b L xs) (hK : KK G s) (hN : NN s) (i : Nat) (hi : i + 5 ≤ L) (hL : L ≤ 2560) (kk : LKC p l e s m below meth c G ax am b i 1004) : LKC p l e s m below meth c G ax am b i 209 := by
  obtain ⟨hx, hb, hr, hml, hown, hts, hX, hbl, hlocks, hgv⟩ := C0
  have htl : ∀ w ∈ wsL_law, w.before #[Value.ref b] s = true := fun w h => hts w (wsL_law_in w h)
  have hown : s.vm.findClass RL = some m.cls := hown
  have hA : ∀ q : Nat, s.heap.size ≤ q → (fun q : Nat => s.heap.size ≤ q) q := fun _ h => h
  have hbA : ¬ (fun q : Nat => s.heap.size ≤ q) b := Nat.not_le.mpr hbl
  intro x wn wa w0 w1 rd wr z jj lt u lm sj hI H locs ls hP hD hS hl
  obtain ⟨sg, zz, hIS, hRX, hRM⟩ := hI
  obtain ⟨Mh, hMI⟩ := hRM.mix hIS
  have htx9 : rwE (rd.2 0) (u.2 9) (sg.1 10) := hRX.2.2.2.2.1.trans hRM.2.2.2.1.symm
  have hlet : ∀ i, i < sg.1 10 → ∃ j, j ≤ 255 ∧ u.2 9 i = nI j := fun i hi => by rw [hRM.2.2.2.1 i hi]; exact hIS.2.2.2.2.2.2.1 i hi
  have hin1 : vp_in (nI (i + 1)) L := vp_in_nI (by omega) (by omega)
  generalize ey1 : xs (nI (i + 1)).toNatClampNeg = y1
  refine lv_aload_n hx hb dL_law_209 rfl (lv_at hl 1 rfl) ?_
  refine lv_aload_n hx hb dL_law_210 rfl (lv_at hl 0 rfl) ?_
  refine lv_iload_n hx hb dL_law_211 rfl (lv_at hl 3 rfl) ?_
  refine lv_iconst (v := nI 1) hx hb dL_law_212 (by decide) ?_
  refine lv_iadd hx hb dL_law_213 ?_
  refine topE (y := nI (i + 1)) (nI_add i 1) ?_
  refine va_sld hx hb hX hbl hbA hS hin1 dL_law_214 ?_
  refine topE ey1 ?_
  refine cRi (w := xw G ax x wn wa w0 w1 rd wr z jj lt) (As := [.int y1]) (rest := []) ⟨hx, hb, hml, hown, htl⟩ (mt_X4_told l G ax x wn wa w0 w1 rd wr z jj lt (sg.1 0) (sg.1 4) y1 hRX.1.1 hRX.1.2.1 hIS.1 hIS.2.1) (cwV 1 htl gL_law_X4_told rfl rfl rfl ⟨rfl, hd_X4_told⟩ ⟨Nat.le_of_ble_eq_true rfl, Nat.le_of_ble_eq_true rfl⟩) hK hN (hP.sub [0, 1, 2, 3, 4, 5, 6, 7, 8, 9, 10, 11, 12, 13, 14, 15, 16, 17, 18, 19, 20, 21, 22, 23, 24, 25, 26, 27, 28, 29, 30, 31, 32, 33, 34, 35, 36, 37, 38, 39, 40, 41, 42, 43, 44, 45, 46, 47, 48, 49, 50, 51, 52, 53, 54] (lxf G ax am x wn wa w0 w1 rd wr z jj lt u lm sj)) 0 4 rfl rfl rfl hl.1 rfl (Nat.le_of_ble_eq_true rfl) ⟨Nat.le_of_ble_eq_true rfl, Nat.le_of_ble_eq_true rfl⟩ dL_law_215 (fun rX hwX => ?_)
  refine lv_pop hx hb dL_law_218 rfl ?_
  refine lv_aload_n hx hb dL_law_219 rfl (lv_at hl 2 rfl) ?_
  refine lv_aload_n hx hb dL_law_220 rfl (lv_at hl 0 rfl) ?_
  refine lv_iload_n hx hb dL_law_221 rfl (lv_at hl 3 rfl) ?_
  refine lv_iconst (v := nI 1) hx hb dL_law_222 (by decide) ?_
  refine lv_iadd hx hb dL_law_223 ?_
  refine topE (y := nI (i + 1)) (nI_add i 1) ?_
  refine va_sld hx hb hX hbl hbA hS hin1 dL_law_224 ?_
  refine topE ey1 ?_
  refine cWi (As := [.int y1]) (rest := []) (S := oS × Int64 × (Nat → Int64)) (wa := LWd G ax am x wn wa w0 w1 rd wr z jj lt u lm sj) (wc := mw G am u lm sj) (w1 := fun v => mw G am v.1 v.2.1 v.2.2) (wa' := fun v => LWd G ax am x wn wa w0 w1 rd wr z jj lt v.1 v.2.1 v.2.2) ⟨hx, hb, hml, hown, htl⟩ (mt_X5_toldS l G am _ u lm sj sg zz y1 Mh hMI hIS hRM) (cwV 1 htl gL_law_X5_told rfl rfl rfl ⟨rfl, hd_X5_told⟩ ⟨Nat.le_of_ble_eq_true rfl, Nat.le_of_ble_eq_true rfl⟩) hK hN hP hD hS hA [55, 56, 57, 58, 59, 60, 61, 62, 63, 64, 65, 66, 67, 68, 69, 70, 71, 72, 73, 74, 75, 76, 77, 78, 79, 80] (lmc G ax am x wn wa w0 w1 rd wr z jj lt u lm sj) (by decide) (lmf G ax am x wn wa w0 w1 rd wr z jj lt u lm sj) (fun v => lml G ax am x wn wa w0 w1 rd wr z jj lt u lm sj v) (fun v => lmo G ax am x wn wa w0 w1 rd wr z jj lt u lm sj v) (fun v => lmm G ax am x wn wa w0 w1 rd wr z jj lt u lm sj v) 0 5 rfl rfl rfl hl.1 rfl (Nat.le_of_ble_eq_true rfl) ⟨Nat.le_of_ble_eq_true rfl, Nat.le_of_ble_eq_true rfl⟩ dL_law_225 (fun rM vM H locs hwM hP hD hS => ?_)
  obtain ⟨u1, lm1, sj1⟩ := vM
  have hM1 := hwM
  have hM1 : RepM u1 sj1 (sg) (zz) := hM1
  have hP : PP G (LWd G ax am x wn wa w0 w1 rd wr z jj lt u1 lm1 sj1) H := hP
  have hD : va_D (fun q : Nat => s.heap.size ≤ q) (LWd G ax am x wn wa w0 w1 rd wr z jj lt u1 lm1 sj1) := hD
  refine lv_pop hx hb dL_law_228 rfl ?_
  refine lv_goto (tgt := 1004) hx hb dL_law_229 (by decide) ?_
  exact kk x wn wa w0 w1 rd wr z jj lt u1 lm1 sj1 ⟨sg, zz, hIS, hRX, hM1⟩ _ _ ls hP hD hS hl
set_option maxHeartbeats 4000000 in
set_option maxRecDepth 100000 in
theorem lc_4 {p : Program} {l : Launch} {e : Env} {s : State} {m : MethodId} {below : List Frame} {meth : Method} {c : Code} {G : gG} {ax am : Nat → Nat} {b L : Nat} {xs : Nat → Int32} (C0 : lw_At p s m meth c b L xs) (hK : KK G s) (hN : NN s) (i : Nat) (hi : i + 5 ≤ L) (hL : L ≤ 2560) (kk : LKC p l e s m below meth c G ax am b i 1004) : LKC p l e s m below meth c G ax am b i 232 := by
  obtain ⟨hx, hb, hr, hml, hown, hts, hX, hbl, hlocks, hgv⟩ := C0
  have htl : ∀ w ∈ wsL_law, w.before #[Value.ref b] s = true := fun w h => hts w (wsL_law_in w h)
  have hown : s.vm.findClass RL = some m.cls := hown
  have hA : ∀ q : Nat, s.heap.size ≤ q → (fun q : Nat => s.heap.size ≤ q) q := fun _ h => h
  have hbA : ¬ (fun q : Nat => s.heap.size ≤ q) b := Nat.not_le.mpr hbl
  intro x wn wa w0 w1 rd wr z jj lt u lm sj hI H locs ls hP hD hS hl
  obtain ⟨sg, zz, hIS, hRX, hRM⟩ := hI
  obtain ⟨Mh, hMI⟩ := hRM.mix hIS
  have htx9 : rwE (rd.2 0) (u.2 9) (sg.1 10) := hRX.2.2.2.2.1.trans hRM.2.2.2.1.symm
  have hlet : ∀ i, i < sg.1 10 → ∃ j, j ≤ 255 ∧ u.2 9 i = nI j := fun i hi => by rw [hRM.2.2.2.1 i hi]; exact hIS.2.2.2.2.2.2.1 i hi
  have hin1 : vp_in (nI (i + 1)) L := vp_in_nI (by omega) (by omega)
  generalize ey1 : xs (nI (i + 1)).toNatClampNeg = y1
  have hin2 : vp_in (nI (i + 2)) L := vp_in_nI (by omega) (by omega)
  generalize ey2 : xs (nI (i + 2)).toNatClampNeg = y2
  refine lv_aload_n hx hb dL_law_232 rfl (lv_at hl 1 rfl) ?_
  refine lv_aload_n hx hb dL_law_233 rfl (lv_at hl 0 rfl) ?_
  refine lv_iload_n hx hb dL_law_234 rfl (lv_at hl 3 rfl) ?_
  refine lv_iconst (v := nI 1) hx hb dL_law_235 (by decide) ?_
  refine lv_iadd hx hb dL_law_236 ?_
  refine topE (y := nI (i + 1)) (nI_add i 1) ?_
  refine va_sld hx hb hX hbl hbA hS hin1 dL_law_237 ?_
  refine topE ey1 ?_
  refine lv_aload_n hx hb dL_law_238 rfl (lv_at hl 0 rfl) ?_
  refine lv_iload_n hx hb dL_law_239 rfl (lv_at hl 3 rfl) ?_
  refine lv_iconst (v := nI 2) hx hb dL_law_240 (by decide) ?_
  refine lv_iadd hx hb dL_law_241 ?_
  refine topE (y := nI (i + 2)) (nI_add i 2) ?_
  refine va_sld hx hb hX hbl hbA hS hin2 dL_law_242 ?_
  refine topE ey2 ?_
  refine cRi (w := xw G ax x wn wa w0 w1 rd wr z jj lt) (As := [.int y1, .int y2]) (rest := []) ⟨hx, hb, hml, hown, htl⟩ (mt_X4_versionS l G ax x wn wa w0 w1 rd wr z jj lt sg zz y1 y2 hIS hRX) (cwV 2 htl gL_law_X4_version rfl rfl rfl ⟨rfl, hd_X4_version⟩ ⟨Nat.le_of_ble_eq_true rfl, Nat.le_of_ble_eq_true rfl⟩) hK hN (hP.sub [0, 1, 2, 3, 4, 5, 6, 7, 8, 9, 10, 11, 12, 13, 14, 15, 16, 17, 18, 19, 20, 21, 22, 23, 24, 25, 26, 27, 28, 29, 30, 31, 32, 33, 34, 35, 36, 37, 38, 39, 40, 41, 42, 43, 44, 45, 46, 47, 48, 49, 50, 51, 52, 53, 54] (lxf G ax am x wn wa w0 w1 rd wr z jj lt u lm sj)) 0 4 rfl rfl rfl hl.1 rfl (Nat.le_of_ble_eq_true rfl) ⟨Nat.le_of_ble_eq_true rfl, Nat.le_of_ble_eq_true rfl⟩ dL_law_243 (fun rX hwX => ?_)
  have hX2 := hwX
  refine lv_pop hx hb dL_law_246 rfl ?_
  refine lv_aload_n hx hb dL_law_247 rfl (lv_at hl 2 rfl) ?_
  refine lv_aload_n hx hb dL_law_248 rfl (lv_at hl 0 rfl) ?_
  refine lv_iload_n hx hb dL_law_249 rfl (lv_at hl 3 rfl) ?_
  refine lv_iconst (v := nI 1) hx hb dL_law_250 (by decide) ?_
  refine lv_iadd hx hb dL_law_251 ?_
  refine topE (y := nI (i + 1)) (nI_add i 1) ?_
  refine va_sld hx hb hX hbl hbA hS hin1 dL_law_252 ?_
  refine topE ey1 ?_
  refine lv_aload_n hx hb dL_law_253 rfl (lv_at hl 0 rfl) ?_
  refine lv_iload_n hx hb dL_law_254 rfl (lv_at hl 3 rfl) ?_
  refine lv_iconst (v := nI 2) hx hb dL_law_255 (by decide) ?_
  refine lv_iadd hx hb dL_law_256 ?_
  refine topE (y := nI (i + 2)) (nI_add i 2) ?_
  refine va_sld hx hb hX hbl hbA hS hin2 dL_law_257 ?_
  refine topE ey2 ?_
  refine cWi (As := [.int y1, .int y2]) (rest := []) (S := oS × Int64 × (Nat → Int64)) (wa := LWd G ax am x wn wa w0 w1 rd wr z jj lt u lm sj) (wc := mw G am u lm sj) (w1 := fun v => mw G am v.1 v.2.1 v.2.2) (wa' := fun v => LWd G ax am x wn wa w0 w1 rd wr z jj lt v.1 v.2.1 v.2.2) ⟨hx, hb, hml, hown, htl⟩ (mt_X5_versionS l G am _ u lm sj sg zz y1 y2 Mh hMI hIS hRM) (cwV 2 htl gL_law_X5_version rfl rfl rfl ⟨rfl, hd_X5_version⟩ ⟨Nat.le_of_ble_eq_true rfl, Nat.le_of_ble_eq_true rfl⟩) hK hN hP hD hS hA [55, 56, 57, 58, 59, 60, 61, 62, 63, 64, 65, 66, 67, 68, 69, 70, 71, 72, 73, 74, 75, 76, 77, 78, 79, 80] (lmc G ax am x wn wa w0 w1 rd wr z jj lt u lm sj) (by decide) (lmf G ax am x wn wa w0 w1 rd wr z jj lt u lm sj) (fun v => lml G ax am x wn wa w0 w1 rd wr z jj lt u lm sj v) (fun v => lmo G ax am x wn wa w0 w1 rd wr z jj lt u lm sj v) (fun v => lmm G ax am x wn wa w0 w1 rd wr z jj lt u lm sj v) 0 5 rfl rfl rfl hl.1 rfl (Nat.le_of_ble_eq_true rfl) ⟨Nat.le_of_ble_eq_true rfl, Nat.le_of_ble_eq_true rfl⟩ dL_law_258 (fun rM vM H locs hwM hP hD hS => ?_)
  obtain ⟨u1, lm1, sj1⟩ := vM
  obtain ⟨hM1, hM2⟩ := hwM
  have hM1 : RepM u1 sj1 (sg) (zz) := hM1
  have hP : PP G (LWd G ax am x wn wa w0 w1 rd wr z jj lt u1 lm1 sj1) H := hP
  have hD : va_D (fun q : Nat => s.heap.size ≤ q) (LWd G ax am x wn wa w0 w1 rd wr z jj lt u1 lm1 sj1) := hD
  refine lv_pop hx hb dL_law_261 rfl ?_
  refine lv_goto (tgt := 1004) hx hb dL_law_262 (by decide) ?_
  exact kk x wn wa w0 w1 rd wr z jj lt u1 lm1 sj1 ⟨sg, zz, hIS, hRX, hM1⟩ _ _ ls hP hD hS hl
set_option maxHeartbeats 4000000 in
set_option maxRecDepth 100000 in
theorem lc_5 {p : Program} {l : Launch} {e : Env} {s : State} {m : MethodId} {below : List Frame} {meth : Method} {c : Code} {G : gG} {ax am : Nat → Nat} {b L : Nat} {xs : Nat → Int32} (C0 : lw_At p s m meth c b L xs) (hK : KK G s) (hN : NN s) (i : Nat) (hi : i + 5 ≤ L) (hL : L ≤ 2560) (kk : LKC p l e s m below meth c G ax am b i 1004) : LKC p l e s m below meth c G ax am b i 265 := by
  obtain ⟨hx, hb, hr, hml, hown, hts, hX, hbl, hlocks, hgv⟩ := C0
  have htl : ∀ w ∈ wsL_law, w.before #[Value.ref b] s = true := fun w h => hts w (wsL_law_in w h)
  have hown : s.vm.findClass RL = some m.cls := hown
  have hA : ∀ q : Nat, s.heap.size ≤ q → (fun q : Nat => s.heap.size ≤ q) q := fun _ h => h
  have hbA : ¬ (fun q : Nat => s.heap.size ≤ q) b := Nat.not_le.mpr hbl
  intro x wn wa w0 w1 rd wr z jj lt u lm sj hI H locs ls hP hD hS hl
  obtain ⟨sg, zz, hIS, hRX, hRM⟩ := hI
  obtain ⟨Mh, hMI⟩ := hRM.mix hIS
  have htx9 : rwE (rd.2 0) (u.2 9) (sg.1 10) := hRX.2.2.2.2.1.trans hRM.2.2.2.1.symm
  have hlet : ∀ i, i < sg.1 10 → ∃ j, j ≤ 255 ∧ u.2 9 i = nI j := fun i hi => by rw [hRM.2.2.2.1 i hi]; exact hIS.2.2.2.2.2.2.1 i hi
  have hin1 : vp_in (nI (i + 1)) L := vp_in_nI (by omega) (by omega)
  generalize ey1 : xs (nI (i + 1)).toNatClampNeg = y1
  have hin2 : vp_in (nI (i + 2)) L := vp_in_nI (by omega) (by omega)
  generalize ey2 : xs (nI (i + 2)).toNatClampNeg = y2
  refine lv_aload_n hx hb dL_law_265 rfl (lv_at hl 1 rfl) ?_
  refine lv_aload_n hx hb dL_law_266 rfl (lv_at hl 0 rfl) ?_
  refine lv_iload_n hx hb dL_law_267 rfl (lv_at hl 3 rfl) ?_
  refine lv_iconst (v := nI 1) hx hb dL_law_268 (by decide) ?_
  refine lv_iadd hx hb dL_law_269 ?_
  refine topE (y := nI (i + 1)) (nI_add i 1) ?_
  refine va_sld hx hb hX hbl hbA hS hin1 dL_law_270 ?_
  refine topE ey1 ?_
  refine lv_aload_n hx hb dL_law_271 rfl (lv_at hl 0 rfl) ?_
  refine lv_iload_n hx hb dL_law_272 rfl (lv_at hl 3 rfl) ?_
  refine lv_iconst (v := nI 2) hx hb dL_law_273 (by decide) ?_
  refine lv_iadd hx hb dL_law_274 ?_
  refine topE (y := nI (i + 2)) (nI_add i 2) ?_
  refine va_sld hx hb hX hbl hbA hS hin2 dL_law_275 ?_
  refine topE ey2 ?_
  refine cRi (w := xw G ax x wn wa w0 w1 rd wr z jj lt) (As := [.int y1, .int y2]) (rest := []) ⟨hx, hb, hml, hown, htl⟩ (mt_X4_lineS l G ax x wn wa w0 w1 rd wr z jj lt sg zz y1 y2 hIS hRX) (cwV 2 htl gL_law_X4_line rfl rfl rfl ⟨rfl, hd_X4_line⟩ ⟨Nat.le_of_ble_eq_true rfl, Nat.le_of_ble_eq_true rfl⟩) hK hN (hP.sub [0, 1, 2, 3, 4, 5, 6, 7, 8, 9, 10, 11, 12, 13, 14, 15, 16, 17, 18, 19, 20, 21, 22, 23, 24, 25, 26, 27, 28, 29, 30, 31, 32, 33, 34, 35, 36, 37, 38, 39, 40, 41, 42, 43, 44, 45, 46, 47, 48, 49, 50, 51, 52, 53, 54] (lxf G ax am x wn wa w0 w1 rd wr z jj lt u lm sj)) 0 4 rfl rfl rfl hl.1 rfl (Nat.le_of_ble_eq_true rfl) ⟨Nat.le_of_ble_eq_true rfl, Nat.le_of_ble_eq_true rfl⟩ dL_law_276 (fun rX hwX => ?_)
  have hX2 := hwX
  refine lv_pop hx hb dL_law_279 rfl ?_
  refine lv_aload_n hx hb dL_law_280 rfl (lv_at hl 2 rfl) ?_
  refine lv_aload_n hx hb dL_law_281 rfl (lv_at hl 0 rfl) ?_
  refine lv_iload_n hx hb dL_law_282 rfl (lv_at hl 3 rfl) ?_
  refine lv_iconst (v := nI 1) hx hb dL_law_283 (by decide) ?_
  refine lv_iadd hx hb dL_law_284 ?_
  refine topE (y := nI (i + 1)) (nI_add i 1) ?_
  refine va_sld hx hb hX hbl hbA hS hin1 dL_law_285 ?_
  refine topE ey1 ?_
  refine lv_aload_n hx hb dL_law_286 rfl (lv_at hl 0 rfl) ?_
  refine lv_iload_n hx hb dL_law_287 rfl (lv_at hl 3 rfl) ?_
  refine lv_iconst (v := nI 2) hx hb dL_law_288 (by decide) ?_
  refine lv_iadd hx hb dL_law_289 ?_
  refine topE (y := nI (i + 2)) (nI_add i 2) ?_
  refine va_sld hx hb hX hbl hbA hS hin2 dL_law_290 ?_
  refine topE ey2 ?_
  refine cWi (As := [.int y1, .int y2]) (rest := []) (S := oS × Int64 × (Nat → Int64)) (wa := LWd G ax am x wn wa w0 w1 rd wr z jj lt u lm sj) (wc := mw G am u lm sj) (w1 := fun v => mw G am v.1 v.2.1 v.2.2) (wa' := fun v => LWd G ax am x wn wa w0 w1 rd wr z jj lt v.1 v.2.1 v.2.2) ⟨hx, hb, hml, hown, htl⟩ (mt_X5_lineS l G am _ u lm sj sg zz y1 y2 Mh hMI hIS hRM) (cwV 2 htl gL_law_X5_line rfl rfl rfl ⟨rfl, hd_X5_line⟩ ⟨Nat.le_of_ble_eq_true rfl, Nat.le_of_ble_eq_true rfl⟩) hK hN hP hD hS hA [55, 56, 57, 58, 59, 60, 61, 62, 63, 64, 65, 66, 67, 68, 69, 70, 71, 72, 73, 74, 75, 76, 77, 78, 79, 80] (lmc G ax am x wn wa w0 w1 rd wr z jj lt u lm sj) (by decide) (lmf G ax am x wn wa w0 w1 rd wr z jj lt u lm sj) (fun v => lml G ax am x wn wa w0 w1 rd wr z jj lt u lm sj v) (fun v => lmo G ax am x wn wa w0 w1 rd wr z jj lt u lm sj v) (fun v => lmm G ax am x wn wa w0 w1 rd wr z jj lt u lm sj v) 0 5 rfl rfl rfl hl.1 rfl (Nat.le_of_ble_eq_true rfl) ⟨Nat.le_of_ble_eq_true rfl, Nat.le_of_ble_eq_true rfl⟩ dL_law_291 (fun rM vM H locs hwM hP hD hS => ?_)
  obtain ⟨u1, lm1, sj1⟩ := vM
  obtain ⟨hM1, hM2⟩ := hwM
  have hM1 : RepM u1 sj1 (sg) (zz) := hM1
  have hP : PP G (LWd G ax am x wn wa w0 w1 rd wr z jj lt u1 lm1 sj1) H := hP
  have hD : va_D (fun q : Nat => s.heap.size ≤ q) (LWd G ax am x wn wa w0 w1 rd wr z jj lt u1 lm1 sj1) := hD
  refine lv_pop hx hb dL_law_294 rfl ?_
  refine lv_goto (tgt := 1004) hx hb dL_law_295 (by decide) ?_
  exact kk x wn wa w0 w1 rd wr z jj lt u1 lm1 sj1 ⟨sg, zz, hIS, hRX, hM1⟩ _ _ ls hP hD hS hl
set_option maxHeartbeats 4000000 in
set_option maxRecDepth 100000 in
theorem lc_6 {p : Program} {l : Launch} {e : Env} {s : State} {m : MethodId} {below : List Frame} {meth : Method} {c : Code} {G : gG} {ax am : Nat → Nat} {b L : Nat} {xs : Nat → Int32} (C0 : lw_At p s m meth c b L xs) (hK : KK G s) (hN : NN s) (i : Nat) (hi : i + 5 ≤ L) (hL : L ≤ 2560) (kk : LKC p l e s m below meth c G ax am b i 1004) : LKC p l e s m below meth c G ax am b i 298 := by
  obtain ⟨hx, hb, hr, hml, hown, hts, hX, hbl, hlocks, hgv⟩ := C0
  have htl : ∀ w ∈ wsL_law, w.before #[Value.ref b] s = true := fun w h => hts w (wsL_law_in w h)
  have hown : s.vm.findClass RL = some m.cls := hown
  have hA : ∀ q : Nat, s.heap.size ≤ q → (fun q : Nat => s.heap.size ≤ q) q := fun _ h => h
  have hbA : ¬ (fun q : Nat => s.heap.size ≤ q) b := Nat.not_le.mpr hbl
  intro x wn wa w0 w1 rd wr z jj lt u lm sj hI H locs ls hP hD hS hl
  obtain ⟨sg, zz, hIS, hRX, hRM⟩ := hI
  obtain ⟨Mh, hMI⟩ := hRM.mix hIS
  have htx9 : rwE (rd.2 0) (u.2 9) (sg.1 10) := hRX.2.2.2.2.1.trans hRM.2.2.2.1.symm
  have hlet : ∀ i, i < sg.1 10 → ∃ j, j ≤ 255 ∧ u.2 9 i = nI j := fun i hi => by rw [hRM.2.2.2.1 i hi]; exact hIS.2.2.2.2.2.2.1 i hi
  have hin1 : vp_in (nI (i + 1)) L := vp_in_nI (by omega) (by omega)
  generalize ey1 : xs (nI (i + 1)).toNatClampNeg = y1
  have hin2 : vp_in (nI (i + 2)) L := vp_in_nI (by omega) (by omega)
  generalize ey2 : xs (nI (i + 2)).toNatClampNeg = y2
  have hin3 : vp_in (nI (i + 3)) L := vp_in_nI (by omega) (by omega)
  generalize ey3 : xs (nI (i + 3)).toNatClampNeg = y3
  refine lv_aload_n hx hb dL_law_298 rfl (lv_at hl 1 rfl) ?_
  refine lv_aload_n hx hb dL_law_299 rfl (lv_at hl 0 rfl) ?_
  refine lv_iload_n hx hb dL_law_300 rfl (lv_at hl 3 rfl) ?_
  refine lv_iconst (v := nI 1) hx hb dL_law_301 (by decide) ?_
  refine lv_iadd hx hb dL_law_302 ?_
  refine topE (y := nI (i + 1)) (nI_add i 1) ?_
  refine va_sld hx hb hX hbl hbA hS hin1 dL_law_303 ?_
  refine topE ey1 ?_
  refine lv_aload_n hx hb dL_law_304 rfl (lv_at hl 0 rfl) ?_
  refine lv_iload_n hx hb dL_law_305 rfl (lv_at hl 3 rfl) ?_
  refine lv_iconst (v := nI 2) hx hb dL_law_306 (by decide) ?_
  refine lv_iadd hx hb dL_law_307 ?_
  refine topE (y := nI (i + 2)) (nI_add i 2) ?_
  refine va_sld hx hb hX hbl hbA hS hin2 dL_law_308 ?_
  refine topE ey2 ?_
  refine lv_aload_n hx hb dL_law_309 rfl (lv_at hl 0 rfl) ?_
  refine lv_iload_n hx hb dL_law_310 rfl (lv_at hl 3 rfl) ?_
  refine lv_iconst (v := nI 3) hx hb dL_law_311 (by decide) ?_
  refine lv_iadd hx hb dL_law_312 ?_
  refine topE (y := nI (i + 3)) (nI_add i 3) ?_
  refine va_sld hx hb hX hbl hbA hS hin3 dL_law_313 ?_
  refine topE ey3 ?_
  refine cRi (w := xw G ax x wn wa w0 w1 rd wr z jj lt) (As := [.int y1, .int y2, .int y3]) (rest := []) ⟨hx, hb, hml, hown, htl⟩ (mt_X4_textS l G ax x wn wa w0 w1 rd wr z jj lt sg zz y1 y2 y3 hIS hRX) (cwV 3 htl gL_law_X4_text rfl rfl rfl ⟨rfl, hd_X4_text⟩ ⟨Nat.le_of_ble_eq_true rfl, Nat.le_of_ble_eq_true rfl⟩) hK hN (hP.sub [0, 1, 2, 3, 4, 5, 6, 7, 8, 9, 10, 11, 12, 13, 14, 15, 16, 17, 18, 19, 20, 21, 22, 23, 24, 25, 26, 27, 28, 29, 30, 31, 32, 33, 34, 35, 36, 37, 38, 39, 40, 41, 42, 43, 44, 45, 46, 47, 48, 49, 50, 51, 52, 53, 54] (lxf G ax am x wn wa w0 w1 rd wr z jj lt u lm sj)) 0 4 rfl rfl rfl hl.1 rfl (Nat.le_of_ble_eq_true rfl) ⟨Nat.le_of_ble_eq_true rfl, Nat.le_of_ble_eq_true rfl⟩ dL_law_314 (fun rX hwX => ?_)
  have hX2 := hwX
  refine lv_pop hx hb dL_law_317 rfl ?_
  refine lv_aload_n hx hb dL_law_318 rfl (lv_at hl 2 rfl) ?_
  refine lv_aload_n hx hb dL_law_319 rfl (lv_at hl 0 rfl) ?_
  refine lv_iload_n hx hb dL_law_320 rfl (lv_at hl 3 rfl) ?_
  refine lv_iconst (v := nI 1) hx hb dL_law_321 (by decide) ?_
  refine lv_iadd hx hb dL_law_322 ?_
  refine topE (y := nI (i + 1)) (nI_add i 1) ?_
  refine va_sld hx hb hX hbl hbA hS hin1 dL_law_323 ?_
  refine topE ey1 ?_
  refine lv_aload_n hx hb dL_law_324 rfl (lv_at hl 0 rfl) ?_
  refine lv_iload_n hx hb dL_law_325 rfl (lv_at hl 3 rfl) ?_
  refine lv_iconst (v := nI 2) hx hb dL_law_326 (by decide) ?_
  refine lv_iadd hx hb dL_law_327 ?_
  refine topE (y := nI (i + 2)) (nI_add i 2) ?_
  refine va_sld hx hb hX hbl hbA hS hin2 dL_law_328 ?_
  refine topE ey2 ?_
  refine lv_aload_n hx hb dL_law_329 rfl (lv_at hl 0 rfl) ?_
  refine lv_iload_n hx hb dL_law_330 rfl (lv_at hl 3 rfl) ?_
  refine lv_iconst (v := nI 3) hx hb dL_law_331 (by decide) ?_
  refine lv_iadd hx hb dL_law_332 ?_
  refine topE (y := nI (i + 3)) (nI_add i 3) ?_
  refine va_sld hx hb hX hbl hbA hS hin3 dL_law_333 ?_
  refine topE ey3 ?_
  refine cWi (As := [.int y1, .int y2, .int y3]) (rest := []) (S := oS × Int64 × (Nat → Int64)) (wa := LWd G ax am x wn wa w0 w1 rd wr z jj lt u lm sj) (wc := mw G am u lm sj) (w1 := fun v => mw G am v.1 v.2.1 v.2.2) (wa' := fun v => LWd G ax am x wn wa w0 w1 rd wr z jj lt v.1 v.2.1 v.2.2) ⟨hx, hb, hml, hown, htl⟩ (mt_X5_textS l G am _ u lm sj sg zz y1 y2 y3 Mh hMI hIS hRM) (cwV 3 htl gL_law_X5_text rfl rfl rfl ⟨rfl, hd_X5_text⟩ ⟨Nat.le_of_ble_eq_true rfl, Nat.le_of_ble_eq_true rfl⟩) hK hN hP hD hS hA [55, 56, 57, 58, 59, 60, 61, 62, 63, 64, 65, 66, 67, 68, 69, 70, 71, 72, 73, 74, 75, 76, 77, 78, 79, 80] (lmc G ax am x wn wa w0 w1 rd wr z jj lt u lm sj) (by decide) (lmf G ax am x wn wa w0 w1 rd wr z jj lt u lm sj) (fun v => lml G ax am x wn wa w0 w1 rd wr z jj lt u lm sj v) (fun v => lmo G ax am x wn wa w0 w1 rd wr z jj lt u lm sj v) (fun v => lmm G ax am x wn wa w0 w1 rd wr z jj lt u lm sj v) 0 5 rfl rfl rfl hl.1 rfl (Nat.le_of_ble_eq_true rfl) ⟨Nat.le_of_ble_eq_true rfl, Nat.le_of_ble_eq_true rfl⟩ dL_law_334 (fun rM vM H locs hwM hP hD hS => ?_)
  obtain ⟨u1, lm1, sj1⟩ := vM
  obtain ⟨hM1, hM2⟩ := hwM
  have hM1 : RepM u1 sj1 (sg) (zz) := hM1
  have hP : PP G (LWd G ax am x wn wa w0 w1 rd wr z jj lt u1 lm1 sj1) H := hP
  have hD : va_D (fun q : Nat => s.heap.size ≤ q) (LWd G ax am x wn wa w0 w1 rd wr z jj lt u1 lm1 sj1) := hD
  refine lv_pop hx hb dL_law_337 rfl ?_
  refine lv_goto (tgt := 1004) hx hb dL_law_338 (by decide) ?_
  exact kk x wn wa w0 w1 rd wr z jj lt u1 lm1 sj1 ⟨sg, zz, hIS, hRX, hM1⟩ _ _ ls hP hD hS hl
set_option maxHeartbeats 4000000 in
set_option maxRecDepth 100000 in
theorem lc_7 {p : Program} {l : Launch} {e : Env} {s : State} {m : MethodId} {below : List Frame} {meth : Method} {c : Code} {G : gG} {ax am : Nat → Nat} {b L : Nat} {xs : Nat → Int32} (C0 : lw_At p s m meth c b L xs) (hK : KK G s) (hN : NN s) (i : Nat) (hi : i + 5 ≤ L) (hL : L ≤ 2560) (kk : LKC p l e s m below meth c G ax am b i 1004) : LKC p l e s m below meth c G ax am b i 341 := by
  obtain ⟨hx, hb, hr, hml, hown, hts, hX, hbl, hlocks, hgv⟩ := C0
  have htl : ∀ w ∈ wsL_law, w.before #[Value.ref b] s = true := fun w h => hts w (wsL_law_in w h)
  have hown : s.vm.findClass RL = some m.cls := hown
  have hA : ∀ q : Nat, s.heap.size ≤ q → (fun q : Nat => s.heap.size ≤ q) q := fun _ h => h
  have hbA : ¬ (fun q : Nat => s.heap.size ≤ q) b := Nat.not_le.mpr hbl
  intro x wn wa w0 w1 rd wr z jj lt u lm sj hI H locs ls hP hD hS hl
  obtain ⟨sg, zz, hIS, hRX, hRM⟩ := hI
  obtain ⟨Mh, hMI⟩ := hRM.mix hIS
  have htx9 : rwE (rd.2 0) (u.2 9) (sg.1 10) := hRX.2.2.2.2.1.trans hRM.2.2.2.1.symm
  have hlet : ∀ i, i < sg.1 10 → ∃ j, j ≤ 255 ∧ u.2 9 i = nI j := fun i hi => by rw [hRM.2.2.2.1 i hi]; exact hIS.2.2.2.2.2.2.1 i hi
  have hin1 : vp_in (nI (i + 1)) L := vp_in_nI (by omega) (by omega)
  generalize ey1 : xs (nI (i + 1)).toNatClampNeg = y1
  refine lv_aload_n hx hb dL_law_341 rfl (lv_at hl 1 rfl) ?_
  refine lv_aload_n hx hb dL_law_342 rfl (lv_at hl 0 rfl) ?_
  refine lv_iload_n hx hb dL_law_343 rfl (lv_at hl 3 rfl) ?_
  refine lv_iconst (v := nI 1) hx hb dL_law_344 (by decide) ?_
  refine lv_iadd hx hb dL_law_345 ?_
  refine topE (y := nI (i + 1)) (nI_add i 1) ?_
  refine va_sld hx hb hX hbl hbA hS hin1 dL_law_346 ?_
  refine topE ey1 ?_
  refine cWi (As := [.int y1]) (rest := []) (S := oS × oS × oS × oS × oS × oS × oS × oS × (Nat → Nat → Int64) × Int64) (wa := LWd G ax am x wn wa w0 w1 rd wr z jj lt u lm sj) (wc := xw G ax x wn wa w0 w1 rd wr z jj lt) (w1 := fun v => xw G ax v.1 v.2.1 v.2.2.1 v.2.2.2.1 v.2.2.2.2.1 v.2.2.2.2.2.1 v.2.2.2.2.2.2.1 v.2.2.2.2.2.2.2.1 v.2.2.2.2.2.2.2.2.1 v.2.2.2.2.2.2.2.2.2) (wa' := fun v => LWd G ax am v.1 v.2.1 v.2.2.1 v.2.2.2.1 v.2.2.2.2.1 v.2.2.2.2.2.1 v.2.2.2.2.2.2.1 v.2.2.2.2.2.2.2.1 v.2.2.2.2.2.2.2.2.1 v.2.2.2.2.2.2.2.2.2 u lm sj) ⟨hx, hb, hml, hown, htl⟩ (mt_X4_openS l G ax _ x wn wa w0 w1 rd wr z jj lt sg zz y1 hIS hRX) (cwV 1 htl gL_law_X4_open rfl rfl rfl ⟨rfl, hd_X4_open⟩ ⟨Nat.le_of_ble_eq_true rfl, Nat.le_of_ble_eq_true rfl⟩) hK hN hP hD hS hA [0, 1, 2, 3, 4, 5, 6, 7, 8, 9, 10, 11, 12, 13, 14, 15, 16, 17, 18, 19, 20, 21, 22, 23, 24, 25, 26, 27, 28, 29, 30, 31, 32, 33, 34, 35, 36, 37, 38, 39, 40, 41, 42, 43, 44, 45, 46, 47, 48, 49, 50, 51, 52, 53, 54] (lxc G ax am x wn wa w0 w1 rd wr z jj lt u lm sj) (by decide) (lxf G ax am x wn wa w0 w1 rd wr z jj lt u lm sj) (fun v => lxl G ax am x wn wa w0 w1 rd wr z jj lt u lm sj v) (fun v => lxo G ax am x wn wa w0 w1 rd wr z jj lt u lm sj v) (fun v => lxm G ax am x wn wa w0 w1 rd wr z jj lt u lm sj v) 0 4 rfl rfl rfl hl.1 rfl (Nat.le_of_ble_eq_true rfl) ⟨Nat.le_of_ble_eq_true rfl, Nat.le_of_ble_eq_true rfl⟩ dL_law_347 (fun rX vX H locs hwX hP hD hS => ?_)
  obtain ⟨x1, wn1, wa1, w01, w11, rd1, wr1, z1, jj1, lt1⟩ := vX
  obtain ⟨hX1, hX2⟩ := hwX
  have hX1 : RepX x1 wn1 wa1 w01 w11 rd1 z1 jj1 (opnF sg y1) (zz) := hX1
  have hP : PP G (LWd G ax am x1 wn1 wa1 w01 w11 rd1 wr1 z1 jj1 lt1 u lm sj) H := hP
  have hD : va_D (fun q : Nat => s.heap.size ≤ q) (LWd G ax am x1 wn1 wa1 w01 w11 rd1 wr1 z1 jj1 lt1 u lm sj) := hD
  refine lv_pop hx hb dL_law_350 rfl ?_
  refine lv_aload_n hx hb dL_law_351 rfl (lv_at hl 2 rfl) ?_
  refine lv_aload_n hx hb dL_law_352 rfl (lv_at hl 0 rfl) ?_
  refine lv_iload_n hx hb dL_law_353 rfl (lv_at hl 3 rfl) ?_
  refine lv_iconst (v := nI 1) hx hb dL_law_354 (by decide) ?_
  refine lv_iadd hx hb dL_law_355 ?_
  refine topE (y := nI (i + 1)) (nI_add i 1) ?_
  refine va_sld hx hb hX hbl hbA hS hin1 dL_law_356 ?_
  refine topE ey1 ?_
  refine cWi (As := [.int y1]) (rest := []) (S := oS × Int64 × (Nat → Int64)) (wa := LWd G ax am x1 wn1 wa1 w01 w11 rd1 wr1 z1 jj1 lt1 u lm sj) (wc := mw G am u lm sj) (w1 := fun v => mw G am v.1 v.2.1 v.2.2) (wa' := fun v => LWd G ax am x1 wn1 wa1 w01 w11 rd1 wr1 z1 jj1 lt1 v.1 v.2.1 v.2.2) ⟨hx, hb, hml, hown, htl⟩ (mt_X5_openS l G am _ u lm sj sg zz y1 Mh hMI hIS hRM) (cwV 1 htl gL_law_X5_open rfl rfl rfl ⟨rfl, hd_X5_open⟩ ⟨Nat.le_of_ble_eq_true rfl, Nat.le_of_ble_eq_true rfl⟩) hK hN hP hD hS hA [55, 56, 57, 58, 59, 60, 61, 62, 63, 64, 65, 66, 67, 68, 69, 70, 71, 72, 73, 74, 75, 76, 77, 78, 79, 80] (lmc G ax am x1 wn1 wa1 w01 w11 rd1 wr1 z1 jj1 lt1 u lm sj) (by decide) (lmf G ax am x1 wn1 wa1 w01 w11 rd1 wr1 z1 jj1 lt1 u lm sj) (fun v => lml G ax am x1 wn1 wa1 w01 w11 rd1 wr1 z1 jj1 lt1 u lm sj v) (fun v => lmo G ax am x1 wn1 wa1 w01 w11 rd1 wr1 z1 jj1 lt1 u lm sj v) (fun v => lmm G ax am x1 wn1 wa1 w01 w11 rd1 wr1 z1 jj1 lt1 u lm sj v) 0 5 rfl rfl rfl hl.1 rfl (Nat.le_of_ble_eq_true rfl) ⟨Nat.le_of_ble_eq_true rfl, Nat.le_of_ble_eq_true rfl⟩ dL_law_357 (fun rM vM H locs hwM hP hD hS => ?_)
  obtain ⟨u1, lm1, sj1⟩ := vM
  obtain ⟨hM1, hM2⟩ := hwM
  have hM1 : RepM u1 sj1 (opnF sg y1) (zz) := hM1
  have hP : PP G (LWd G ax am x1 wn1 wa1 w01 w11 rd1 wr1 z1 jj1 lt1 u1 lm1 sj1) H := hP
  have hD : va_D (fun q : Nat => s.heap.size ≤ q) (LWd G ax am x1 wn1 wa1 w01 w11 rd1 wr1 z1 jj1 lt1 u1 lm1 sj1) := hD
  refine lv_pop hx hb dL_law_360 rfl ?_
  refine lv_goto (tgt := 1004) hx hb dL_law_361 (by decide) ?_
  exact kk x1 wn1 wa1 w01 w11 rd1 wr1 z1 jj1 lt1 u1 lm1 sj1 ⟨opnF sg y1, zz, IS_opnF hIS, hX1, hM1⟩ _ _ ls hP hD hS hl
set_option maxHeartbeats 4000000 in
set_option maxRecDepth 100000 in
theorem lc_8 {p : Program} {l : Launch} {e : Env} {s : State} {m : MethodId} {below : List Frame} {meth : Method} {c : Code} {G : gG} {ax am : Nat → Nat} {b L : Nat} {xs : Nat → Int32} (C0 : lw_At p s m meth c b L xs) (hK : KK G s) (hN : NN s) (i : Nat) (hi : i + 5 ≤ L) (hL : L ≤ 2560) (kk : LKC p l e s m below meth c G ax am b i 1004) : LKC p l e s m below meth c G ax am b i 364 := by
  obtain ⟨hx, hb, hr, hml, hown, hts, hX, hbl, hlocks, hgv⟩ := C0
  have htl : ∀ w ∈ wsL_law, w.before #[Value.ref b] s = true := fun w h => hts w (wsL_law_in w h)
  have hown : s.vm.findClass RL = some m.cls := hown
  have hA : ∀ q : Nat, s.heap.size ≤ q → (fun q : Nat => s.heap.size ≤ q) q := fun _ h => h
  have hbA : ¬ (fun q : Nat => s.heap.size ≤ q) b := Nat.not_le.mpr hbl
  intro x wn wa w0 w1 rd wr z jj lt u lm sj hI H locs ls hP hD hS hl
  obtain ⟨sg, zz, hIS, hRX, hRM⟩ := hI
  obtain ⟨Mh, hMI⟩ := hRM.mix hIS
  have htx9 : rwE (rd.2 0) (u.2 9) (sg.1 10) := hRX.2.2.2.2.1.trans hRM.2.2.2.1.symm
  have hlet : ∀ i, i < sg.1 10 → ∃ j, j ≤ 255 ∧ u.2 9 i = nI j := fun i hi => by rw [hRM.2.2.2.1 i hi]; exact hIS.2.2.2.2.2.2.1 i hi
  have hin1 : vp_in (nI (i + 1)) L := vp_in_nI (by omega) (by omega)
  generalize ey1 : xs (nI (i + 1)).toNatClampNeg = y1
  refine lv_aload_n hx hb dL_law_364 rfl (lv_at hl 1 rfl) ?_
  refine lv_aload_n hx hb dL_law_365 rfl (lv_at hl 0 rfl) ?_
  refine lv_iload_n hx hb dL_law_366 rfl (lv_at hl 3 rfl) ?_
  refine lv_iconst (v := nI 1) hx hb dL_law_367 (by decide) ?_
  refine lv_iadd hx hb dL_law_368 ?_
  refine topE (y := nI (i + 1)) (nI_add i 1) ?_
  refine va_sld hx hb hX hbl hbA hS hin1 dL_law_369 ?_
  refine topE ey1 ?_
  refine cWi (As := [.int y1]) (rest := []) (S := oS × oS × oS × oS × oS × oS × oS × oS × (Nat → Nat → Int64) × Int64) (wa := LWd G ax am x wn wa w0 w1 rd wr z jj lt u lm sj) (wc := xw G ax x wn wa w0 w1 rd wr z jj lt) (w1 := fun v => xw G ax v.1 v.2.1 v.2.2.1 v.2.2.2.1 v.2.2.2.2.1 v.2.2.2.2.2.1 v.2.2.2.2.2.2.1 v.2.2.2.2.2.2.2.1 v.2.2.2.2.2.2.2.2.1 v.2.2.2.2.2.2.2.2.2) (wa' := fun v => LWd G ax am v.1 v.2.1 v.2.2.1 v.2.2.2.1 v.2.2.2.2.1 v.2.2.2.2.2.1 v.2.2.2.2.2.2.1 v.2.2.2.2.2.2.2.1 v.2.2.2.2.2.2.2.2.1 v.2.2.2.2.2.2.2.2.2 u lm sj) ⟨hx, hb, hml, hown, htl⟩ (mt_X4_includeS l G ax _ x wn wa w0 w1 rd wr z jj lt sg zz y1 hIS hRX) (cwV 1 htl gL_law_X4_include rfl rfl rfl ⟨rfl, hd_X4_include⟩ ⟨Nat.le_of_ble_eq_true rfl, Nat.le_of_ble_eq_true rfl⟩) hK hN hP hD hS hA [0, 1, 2, 3, 4, 5, 6, 7, 8, 9, 10, 11, 12, 13, 14, 15, 16, 17, 18, 19, 20, 21, 22, 23, 24, 25, 26, 27, 28, 29, 30, 31, 32, 33, 34, 35, 36, 37, 38, 39, 40, 41, 42, 43, 44, 45, 46, 47, 48, 49, 50, 51, 52, 53, 54] (lxc G ax am x wn wa w0 w1 rd wr z jj lt u lm sj) (by decide) (lxf G ax am x wn wa w0 w1 rd wr z jj lt u lm sj) (fun v => lxl G ax am x wn wa w0 w1 rd wr z jj lt u lm sj v) (fun v => lxo G ax am x wn wa w0 w1 rd wr z jj lt u lm sj v) (fun v => lxm G ax am x wn wa w0 w1 rd wr z jj lt u lm sj v) 0 4 rfl rfl rfl hl.1 rfl (Nat.le_of_ble_eq_true rfl) ⟨Nat.le_of_ble_eq_true rfl, Nat.le_of_ble_eq_true rfl⟩ dL_law_370 (fun rX vX H locs hwX hP hD hS => ?_)
  obtain ⟨x1, wn1, wa1, w01, w11, rd1, wr1, z1, jj1, lt1⟩ := vX
  obtain ⟨hX1, hX2⟩ := hwX
  have hX1 : RepX x1 wn1 wa1 w01 w11 rd1 z1 jj1 (incF sg y1) (zz) := hX1
  have hP : PP G (LWd G ax am x1 wn1 wa1 w01 w11 rd1 wr1 z1 jj1 lt1 u lm sj) H := hP
  have hD : va_D (fun q : Nat => s.heap.size ≤ q) (LWd G ax am x1 wn1 wa1 w01 w11 rd1 wr1 z1 jj1 lt1 u lm sj) := hD
  refine lv_pop hx hb dL_law_373 rfl ?_
  refine lv_aload_n hx hb dL_law_374 rfl (lv_at hl 2 rfl) ?_
  refine lv_aload_n hx hb dL_law_375 rfl (lv_at hl 0 rfl) ?_
  refine lv_iload_n hx hb dL_law_376 rfl (lv_at hl 3 rfl) ?_
  refine lv_iconst (v := nI 1) hx hb dL_law_377 (by decide) ?_
  refine lv_iadd hx hb dL_law_378 ?_
  refine topE (y := nI (i + 1)) (nI_add i 1) ?_
  refine va_sld hx hb hX hbl hbA hS hin1 dL_law_379 ?_
  refine topE ey1 ?_
  refine cWi (As := [.int y1]) (rest := []) (S := oS × Int64 × (Nat → Int64)) (wa := LWd G ax am x1 wn1 wa1 w01 w11 rd1 wr1 z1 jj1 lt1 u lm sj) (wc := mw G am u lm sj) (w1 := fun v => mw G am v.1 v.2.1 v.2.2) (wa' := fun v => LWd G ax am x1 wn1 wa1 w01 w11 rd1 wr1 z1 jj1 lt1 v.1 v.2.1 v.2.2) ⟨hx, hb, hml, hown, htl⟩ (mt_X5_includeS l G am _ u lm sj sg zz y1 Mh hMI hIS hRM) (cwV 1 htl gL_law_X5_include rfl rfl rfl ⟨rfl, hd_X5_include⟩ ⟨Nat.le_of_ble_eq_true rfl, Nat.le_of_ble_eq_true rfl⟩) hK hN hP hD hS hA [55, 56, 57, 58, 59, 60, 61, 62, 63, 64, 65, 66, 67, 68, 69, 70, 71, 72, 73, 74, 75, 76, 77, 78, 79, 80] (lmc G ax am x1 wn1 wa1 w01 w11 rd1 wr1 z1 jj1 lt1 u lm sj) (by decide) (lmf G ax am x1 wn1 wa1 w01 w11 rd1 wr1 z1 jj1 lt1 u lm sj) (fun v => lml G ax am x1 wn1 wa1 w01 w11 rd1 wr1 z1 jj1 lt1 u lm sj v) (fun v => lmo G ax am x1 wn1 wa1 w01 w11 rd1 wr1 z1 jj1 lt1 u lm sj v) (fun v => lmm G ax am x1 wn1 wa1 w01 w11 rd1 wr1 z1 jj1 lt1 u lm sj v) 0 5 rfl rfl rfl hl.1 rfl (Nat.le_of_ble_eq_true rfl) ⟨Nat.le_of_ble_eq_true rfl, Nat.le_of_ble_eq_true rfl⟩ dL_law_380 (fun rM vM H locs hwM hP hD hS => ?_)
  obtain ⟨u1, lm1, sj1⟩ := vM
  obtain ⟨hM1, hM2⟩ := hwM
  have hM1 : RepM u1 sj1 (incF sg y1) (zz) := hM1
  have hP : PP G (LWd G ax am x1 wn1 wa1 w01 w11 rd1 wr1 z1 jj1 lt1 u1 lm1 sj1) H := hP
  have hD : va_D (fun q : Nat => s.heap.size ≤ q) (LWd G ax am x1 wn1 wa1 w01 w11 rd1 wr1 z1 jj1 lt1 u1 lm1 sj1) := hD
  refine lv_pop hx hb dL_law_383 rfl ?_
  refine lv_goto (tgt := 1004) hx hb dL_law_384 (by decide) ?_
  exact kk x1 wn1 wa1 w01 w11 rd1 wr1 z1 jj1 lt1 u1 lm1 sj1 ⟨incF sg y1, zz, IS_incF hIS, hX1, hM1⟩ _ _ ls hP hD hS hl
set_option maxHeartbeats 4000000 in
set_option maxRecDepth 100000 in
theorem lc_9 {p : Program} {l : Launch} {e : Env} {s : State} {m : MethodId} {below : List Frame} {meth : Method} {c : Code} {G : gG} {ax am : Nat → Nat} {b L : Nat} {xs : Nat → Int32} (C0 : lw_At p s m meth c b L xs) (hK : KK G s) (hN : NN s) (i : Nat) (hi : i + 5 ≤ L) (hL : L ≤ 2560) (kk : LKC p l e s m below meth c G ax am b i 1004) : LKC p l e s m below meth c G ax am b i 387 := by
  obtain ⟨hx, hb, hr, hml, hown, hts, hX, hbl, hlocks, hgv⟩ := C0
  have htl : ∀ w ∈ wsL_law, w.before #[Value.ref b] s = true := fun w h => hts w (wsL_law_in w h)
  have hown : s.vm.findClass RL = some m.cls := hown
  have hA : ∀ q : Nat, s.heap.size ≤ q → (fun q : Nat => s.heap.size ≤ q) q := fun _ h => h
  have hbA : ¬ (fun q : Nat => s.heap.size ≤ q) b := Nat.not_le.mpr hbl
  intro x wn wa w0 w1 rd wr z jj lt u lm sj hI H locs ls hP hD hS hl
  obtain ⟨sg, zz, hIS, hRX, hRM⟩ := hI
  obtain ⟨Mh, hMI⟩ := hRM.mix hIS
  have htx9 : rwE (rd.2 0) (u.2 9) (sg.1 10) := hRX.2.2.2.2.1.trans hRM.2.2.2.1.symm
  have hlet : ∀ i, i < sg.1 10 → ∃ j, j ≤ 255 ∧ u.2 9 i = nI j := fun i hi => by rw [hRM.2.2.2.1 i hi]; exact hIS.2.2.2.2.2.2.1 i hi
  have hin1 : vp_in (nI (i + 1)) L := vp_in_nI (by omega) (by omega)
  generalize ey1 : xs (nI (i + 1)).toNatClampNeg = y1
  refine lv_aload_n hx hb dL_law_387 rfl (lv_at hl 1 rfl) ?_
  refine lv_aload_n hx hb dL_law_388 rfl (lv_at hl 0 rfl) ?_
  refine lv_iload_n hx hb dL_law_389 rfl (lv_at hl 3 rfl) ?_
  refine lv_iconst (v := nI 1) hx hb dL_law_390 (by decide) ?_
  refine lv_iadd hx hb dL_law_391 ?_
  refine topE (y := nI (i + 1)) (nI_add i 1) ?_
  refine va_sld hx hb hX hbl hbA hS hin1 dL_law_392 ?_
  refine topE ey1 ?_
  refine cWi (As := [.int y1]) (rest := []) (S := oS × oS × oS × oS × oS × oS × oS × oS × (Nat → Nat → Int64) × Int64) (wa := LWd G ax am x wn wa w0 w1 rd wr z jj lt u lm sj) (wc := xw G ax x wn wa w0 w1 rd wr z jj lt) (w1 := fun v => xw G ax v.1 v.2.1 v.2.2.1 v.2.2.2.1 v.2.2.2.2.1 v.2.2.2.2.2.1 v.2.2.2.2.2.2.1 v.2.2.2.2.2.2.2.1 v.2.2.2.2.2.2.2.2.1 v.2.2.2.2.2.2.2.2.2) (wa' := fun v => LWd G ax am v.1 v.2.1 v.2.2.1 v.2.2.2.1 v.2.2.2.2.1 v.2.2.2.2.2.1 v.2.2.2.2.2.2.1 v.2.2.2.2.2.2.2.1 v.2.2.2.2.2.2.2.2.1 v.2.2.2.2.2.2.2.2.2 u lm sj) ⟨hx, hb, hml, hown, htl⟩ (mt_X4_excludeS l G ax _ x wn wa w0 w1 rd wr z jj lt sg zz y1 hIS hRX) (cwV 1 htl gL_law_X4_exclude rfl rfl rfl ⟨rfl, hd_X4_exclude⟩ ⟨Nat.le_of_ble_eq_true rfl, Nat.le_of_ble_eq_true rfl⟩) hK hN hP hD hS hA [0, 1, 2, 3, 4, 5, 6, 7, 8, 9, 10, 11, 12, 13, 14, 15, 16, 17, 18, 19, 20, 21, 22, 23, 24, 25, 26, 27, 28, 29, 30, 31, 32, 33, 34, 35, 36, 37, 38, 39, 40, 41, 42, 43, 44, 45, 46, 47, 48, 49, 50, 51, 52, 53, 54] (lxc G ax am x wn wa w0 w1 rd wr z jj lt u lm sj) (by decide) (lxf G ax am x wn wa w0 w1 rd wr z jj lt u lm sj) (fun v => lxl G ax am x wn wa w0 w1 rd wr z jj lt u lm sj v) (fun v => lxo G ax am x wn wa w0 w1 rd wr z jj lt u lm sj v) (fun v => lxm G ax am x wn wa w0 w1 rd wr z jj lt u lm sj v) 0 4 rfl rfl rfl hl.1 rfl (Nat.le_of_ble_eq_true rfl) ⟨Nat.le_of_ble_eq_true rfl, Nat.le_of_ble_eq_true rfl⟩ dL_law_393 (fun rX vX H locs hwX hP hD hS => ?_)
  obtain ⟨x1, wn1, wa1, w01, w11, rd1, wr1, z1, jj1, lt1⟩ := vX
  obtain ⟨hX1, hX2⟩ := hwX
  have hX1 : RepX x1 wn1 wa1 w01 w11 rd1 z1 jj1 (excF sg y1) (zz) := hX1
  have hP : PP G (LWd G ax am x1 wn1 wa1 w01 w11 rd1 wr1 z1 jj1 lt1 u lm sj) H := hP
  have hD : va_D (fun q : Nat => s.heap.size ≤ q) (LWd G ax am x1 wn1 wa1 w01 w11 rd1 wr1 z1 jj1 lt1 u lm sj) := hD
  refine lv_pop hx hb dL_law_396 rfl ?_
  refine lv_aload_n hx hb dL_law_397 rfl (lv_at hl 2 rfl) ?_
  refine lv_aload_n hx hb dL_law_398 rfl (lv_at hl 0 rfl) ?_
  refine lv_iload_n hx hb dL_law_399 rfl (lv_at hl 3 rfl) ?_
  refine lv_iconst (v := nI 1) hx hb dL_law_400 (by decide) ?_
  refine lv_iadd hx hb dL_law_401 ?_
  refine topE (y := nI (i + 1)) (nI_add i 1) ?_
  refine va_sld hx hb hX hbl hbA hS hin1 dL_law_402 ?_
  refine topE ey1 ?_
  refine cWi (As := [.int y1]) (rest := []) (S := oS × Int64 × (Nat → Int64)) (wa := LWd G ax am x1 wn1 wa1 w01 w11 rd1 wr1 z1 jj1 lt1 u lm sj) (wc := mw G am u lm sj) (w1 := fun v => mw G am v.1 v.2.1 v.2.2) (wa' := fun v => LWd G ax am x1 wn1 wa1 w01 w11 rd1 wr1 z1 jj1 lt1 v.1 v.2.1 v.2.2) ⟨hx, hb, hml, hown, htl⟩ (mt_X5_excludeS l G am _ u lm sj sg zz y1 Mh hMI hIS hRM) (cwV 1 htl gL_law_X5_exclude rfl rfl rfl ⟨rfl, hd_X5_exclude⟩ ⟨Nat.le_of_ble_eq_true rfl, Nat.le_of_ble_eq_true rfl⟩) hK hN hP hD hS hA [55, 56, 57, 58, 59, 60, 61, 62, 63, 64, 65, 66, 67, 68, 69, 70, 71, 72, 73, 74, 75, 76, 77, 78, 79, 80] (lmc G ax am x1 wn1 wa1 w01 w11 rd1 wr1 z1 jj1 lt1 u lm sj) (by decide) (lmf G ax am x1 wn1 wa1 w01 w11 rd1 wr1 z1 jj1 lt1 u lm sj) (fun v => lml G ax am x1 wn1 wa1 w01 w11 rd1 wr1 z1 jj1 lt1 u lm sj v) (fun v => lmo G ax am x1 wn1 wa1 w01 w11 rd1 wr1 z1 jj1 lt1 u lm sj v) (fun v => lmm G ax am x1 wn1 wa1 w01 w11 rd1 wr1 z1 jj1 lt1 u lm sj v) 0 5 rfl rfl rfl hl.1 rfl (Nat.le_of_ble_eq_true rfl) ⟨Nat.le_of_ble_eq_true rfl, Nat.le_of_ble_eq_true rfl⟩ dL_law_403 (fun rM vM H locs hwM hP hD hS => ?_)
  obtain ⟨u1, lm1, sj1⟩ := vM
  obtain ⟨hM1, hM2⟩ := hwM
  have hM1 : RepM u1 sj1 (excF sg y1) (zz) := hM1
  have hP : PP G (LWd G ax am x1 wn1 wa1 w01 w11 rd1 wr1 z1 jj1 lt1 u1 lm1 sj1) H := hP
  have hD : va_D (fun q : Nat => s.heap.size ≤ q) (LWd G ax am x1 wn1 wa1 w01 w11 rd1 wr1 z1 jj1 lt1 u1 lm1 sj1) := hD
  refine lv_pop hx hb dL_law_406 rfl ?_
  refine lv_goto (tgt := 1004) hx hb dL_law_407 (by decide) ?_
  exact kk x1 wn1 wa1 w01 w11 rd1 wr1 z1 jj1 lt1 u1 lm1 sj1 ⟨excF sg y1, zz, IS_excF hIS, hX1, hM1⟩ _ _ ls hP hD hS hl
