set_option maxHeartbeats 4000000 in
set_option maxRecDepth 100000 in
theorem lc_0 {p : Program} {l : Launch} {e : Env} {s : State} {m : MethodId} {below : List Frame} {meth : Method} {c : Code} {G : gG} {ax am : Nat → Nat} {b L : Nat} {xs : Nat → Int32} (C0 : lw_At p s m meth c b L xs) (hK : KK G s) (hN : NN s) (i : Nat) (hi : i + 5 ≤ L) (hL : L ≤ 2560) (kk : LKC p l e s m below meth c G ax am b i 1004) : LKC p l e s m below meth c G ax am b i 160 := by
  obtain ⟨hx, hb, hr, hml, hown, hts, hX, hbl, hlocks, hgv⟩ := C0
  have htl : ∀ w ∈ wsL_law, w.before #[Value.ref b] s = true := fun w h => hts w (wsL_law_in w h)
  have hown : s.vm.findClass RL = some m.cls := hown
  have hA : ∀ q : Nat, s.heap.size ≤ q → (fun q : Nat => s.heap.size ≤ q) q := fun _ h => h
  have hbA : ¬ (fun q : Nat => s.heap.size ≤ q) b := Nat.not_le.mpr hbl
  intro x wn wa w0 w1 rd wr z jj lt u lm sj hI H locs ls hP hD hS hl
  obtain ⟨hW1, hW2, hW3, hW4, ⟨len, elen, eulen, hl240, hrwt, hlet⟩, hrel, hMp, hflt⟩ := hI
  obtain ⟨nv, nl, ev, hv24, el5, hl120⟩ := id hW1
  obtain ⟨nva, nla, eva, hva24, ela, hla120⟩ := id hW2
  obtain ⟨nv0, nl0, ev0, hv024, el0, hl0120⟩ := id hW3
  obtain ⟨nv1, nl1, ev1, hv124, el1, hl1120⟩ := id hW4
  obtain ⟨Mv, Ml, Mt, Mh, hMI⟩ := id hMp
  obtain ⟨m0, m4, m10, m27, b24, b120, b240, bh120, hop, hopn, hparV, hsz4, himg⟩ := id hMI
  have hlen : len = Mt := nI_inj4 (by omega) (by omega) (eulen.symm.trans m10)
  have hin1 : vp_in (nI (i + 1)) L := vp_in_nI (by omega) (by omega)
  generalize ey1 : xs (nI (i + 1)).toNatClampNeg = y1
  refine lv_aload_n hx hb dL_law_160 rfl (lv_at hl 1 rfl) ?_
  refine lv_aload_n hx hb dL_law_161 rfl (lv_at hl 0 rfl) ?_
  refine lv_iload_n hx hb dL_law_162 rfl (lv_at hl 3 rfl) ?_
  refine lv_iconst (v := nI 1) hx hb dL_law_163 (by decide) ?_
  refine lv_iadd hx hb dL_law_164 ?_
  refine topE (y := nI (i + 1)) (nI_add i 1) ?_
  refine va_sld hx hb hX hbl hbA hS hin1 dL_law_165 ?_
  refine topE ey1 ?_
  refine cWi (As := [.int y1]) (rest := []) (S := oS × oS × oS × oS × oS × oS × oS × oS × (Nat → Nat → Int64) × Int64) (wa := LWd G ax am x wn wa w0 w1 rd wr z jj lt u lm sj) (wc := xw G ax x wn wa w0 w1 rd wr z jj lt) (w1 := fun v => xw G ax v.1 v.2.1 v.2.2.1 v.2.2.2.1 v.2.2.2.2.1 v.2.2.2.2.2.1 v.2.2.2.2.2.2.1 v.2.2.2.2.2.2.2.1 v.2.2.2.2.2.2.2.2.1 v.2.2.2.2.2.2.2.2.2) (wa' := fun v => LWd G ax am v.1 v.2.1 v.2.2.1 v.2.2.2.1 v.2.2.2.2.1 v.2.2.2.2.2.1 v.2.2.2.2.2.2.1 v.2.2.2.2.2.2.2.1 v.2.2.2.2.2.2.2.2.1 v.2.2.2.2.2.2.2.2.2 u lm sj) ⟨hx, hb, hml, hown, htl⟩ (mt_X4_feed l G ax _ x wn wa w0 w1 rd wr z jj lt nv nl nva nla nv0 nl0 nv1 nl1 len y1 ev el5 eva ela ev0 el0 ev1 el1 elen hv24 hl120 hva24 hla120 hv024 hl0120 hv124 hl1120 hl240 hrel.sz) (cwV 1 htl gL_law_X4_feed rfl rfl rfl (by decide +kernel) ⟨Nat.le_of_ble_eq_true rfl, Nat.le_of_ble_eq_true rfl⟩) hK hN hP hD hS hA [0, 1, 2, 3, 4, 5, 6, 7, 8, 9, 10, 11, 12, 13, 14, 15, 16, 17, 18, 19, 20, 21, 22, 23, 24, 25, 26, 27, 28, 29, 30, 31, 32, 33, 34, 35, 36, 37, 38, 39, 40, 41, 42, 43, 44, 45, 46, 47, 48, 49, 50, 51, 52, 53, 54] (lxc G ax am x wn wa w0 w1 rd wr z jj lt u lm sj) (by decide) (lxf G ax am x wn wa w0 w1 rd wr z jj lt u lm sj) (fun v => lxl G ax am x wn wa w0 w1 rd wr z jj lt u lm sj v) (fun v => lxo G ax am x wn wa w0 w1 rd wr z jj lt u lm sj v) (fun v => lxm G ax am x wn wa w0 w1 rd wr z jj lt u lm sj v) 0 4 rfl rfl rfl hl.1 rfl (Nat.le_of_ble_eq_true rfl) ⟨Nat.le_of_ble_eq_true rfl, Nat.le_of_ble_eq_true rfl⟩ dL_law_166 (fun rX vX H locs hwX hP hD hS => ?_)
  rcases hwX with ⟨rfl, ⟨x1, wn1, wa1, w01, w11, rd1, wr1, z1, jj1, lt1, rfl, a1, a2, a3, a4, a5, a6, a7, a8⟩, hna⟩ | ⟨⟨ja, hja, rfl⟩, hla, rfl, ⟨x1, wn1, wa1, w01, w11, rd1, wr1, z1, jj1, lt1, rfl, a1, a2, a3, a4, a5, a6, a7, a8⟩⟩ | ⟨⟨ja, hja, rfl⟩, hla, rfl, ⟨x1, wn1, wa1, w01, w11, rd1, wr1, z1, jj1, lt1, rfl, a1, a2, a3, a4, a5, a6, a7, a8⟩⟩
  · skip
    have hP : PP G (LWd G ax am x1 wn1 wa1 w01 w11 rd1 wr1 z1 jj1 lt1 u lm sj) H := hP
    have hD : va_D (fun q : Nat => s.heap.size ≤ q) (LWd G ax am x1 wn1 wa1 w01 w11 rd1 wr1 z1 jj1 lt1 u lm sj) := hD
    refine lv_aload_n hx hb dL_law_169 rfl (lv_at hl 2 rfl) ?_
    refine lv_aload_n hx hb dL_law_170 rfl (lv_at hl 0 rfl) ?_
    refine lv_iload_n hx hb dL_law_171 rfl (lv_at hl 3 rfl) ?_
    refine lv_iconst (v := nI 1) hx hb dL_law_172 (by decide) ?_
    refine lv_iadd hx hb dL_law_173 ?_
    refine topE (y := nI (i + 1)) (nI_add i 1) ?_
    refine va_sld hx hb hX hbl hbA hS hin1 dL_law_174 ?_
    refine topE ey1 ?_
    refine cWi (As := [.int y1]) (rest := [.int (-1000000002)]) (S := oS × Int64 × (Nat → Int64)) (wa := LWd G ax am x1 wn1 wa1 w01 w11 rd1 wr1 z1 jj1 lt1 u lm sj) (wc := mw G am u lm sj) (w1 := fun v => mw G am v.1 v.2.1 v.2.2) (wa' := fun v => LWd G ax am x1 wn1 wa1 w01 w11 rd1 wr1 z1 jj1 lt1 v.1 v.2.1 v.2.2) ⟨hx, hb, hml, hown, htl⟩ (mt_X5_feed l G am _ u lm sj y1 Mv Ml Mt Mh hMI) (cwV 1 htl gL_law_X5_feed rfl rfl rfl (by decide +kernel) ⟨Nat.le_of_ble_eq_true rfl, Nat.le_of_ble_eq_true rfl⟩) hK hN hP hD hS hA [55, 56, 57, 58, 59, 60, 61, 62, 63, 64, 65, 66, 67, 68, 69, 70, 71, 72, 73, 74, 75, 76, 77, 78, 79, 80] (lmc G ax am x1 wn1 wa1 w01 w11 rd1 wr1 z1 jj1 lt1 u lm sj) (by decide) (lmf G ax am x1 wn1 wa1 w01 w11 rd1 wr1 z1 jj1 lt1 u lm sj) (fun v => lml G ax am x1 wn1 wa1 w01 w11 rd1 wr1 z1 jj1 lt1 u lm sj v) (fun v => lmo G ax am x1 wn1 wa1 w01 w11 rd1 wr1 z1 jj1 lt1 u lm sj v) (fun v => lmm G ax am x1 wn1 wa1 w01 w11 rd1 wr1 z1 jj1 lt1 u lm sj v) 0 5 rfl rfl rfl hl.1 rfl (Nat.le_of_ble_eq_true rfl) ⟨Nat.le_of_ble_eq_true rfl, Nat.le_of_ble_eq_true rfl⟩ dL_law_175 (fun rM vM H locs hwM hP hD hS => ?_)
    obtain ⟨u1, lm1, sj1⟩ := vM
    have hP : PP G (LWd G ax am x1 wn1 wa1 w01 w11 rd1 wr1 z1 jj1 lt1 u1 lm1 sj1) H := hP
    have hD : va_D (fun q : Nat => s.heap.size ≤ q) (LWd G ax am x1 wn1 wa1 w01 w11 rd1 wr1 z1 jj1 lt1 u1 lm1 sj1) := hD
    obtain ⟨hM1, k32, k33, k11, hwM⟩ := hwM
    have hlen : len = Mt := nI_inj4 (by omega) (by omega) (eulen.symm.trans m10)
    rcases hwM with ⟨rfl, k10, k9, hnc⟩ | ⟨⟨jc, hjc, ejc⟩, hlc, rfl, k10, k9⟩ | ⟨⟨jc, hjc, ejc⟩, hlc, rfl, k10, k9⟩
    · skip
      refine lv_icmp_eq (tgt := 1004) hx hb dL_law_178 (by decide) (fun _ => ?_) (fun c9 => absurd (rfl) c9)
      exact kk x1 wn1 wa1 w01 w11 rd1 wr1 z1 jj1 lt1 u1 lm1 sj1 ⟨a1, a2, a3, a4, ⟨len, a5.trans elen, k10.trans eulen, hl240, by rw [k9, a7]; exact hrwt, by rw [k9]; exact hlet⟩, hrel.keep a6 k32 k33, hM1, (a8.trans (hflt)).trans k11.symm⟩ _ _ ls hP hD hS hl
    · skip
      exact absurd ejc (hna jc hjc)
    · skip
      exact absurd ejc (hna jc hjc)
  · skip
    have hP : PP G (LWd G ax am x1 wn1 wa1 w01 w11 rd1 wr1 z1 jj1 lt1 u lm sj) H := hP
    have hD : va_D (fun q : Nat => s.heap.size ≤ q) (LWd G ax am x1 wn1 wa1 w01 w11 rd1 wr1 z1 jj1 lt1 u lm sj) := hD
    refine lv_aload_n hx hb dL_law_169 rfl (lv_at hl 2 rfl) ?_
    refine lv_aload_n hx hb dL_law_170 rfl (lv_at hl 0 rfl) ?_
    refine lv_iload_n hx hb dL_law_171 rfl (lv_at hl 3 rfl) ?_
    refine lv_iconst (v := nI 1) hx hb dL_law_172 (by decide) ?_
    refine lv_iadd hx hb dL_law_173 ?_
    refine topE (y := nI (i + 1)) (nI_add i 1) ?_
    refine va_sld hx hb hX hbl hbA hS hin1 dL_law_174 ?_
    refine topE ey1 ?_
    refine cWi (As := [.int (nI ja)]) (rest := [.int (-1000000004)]) (S := oS × Int64 × (Nat → Int64)) (wa := LWd G ax am x1 wn1 wa1 w01 w11 rd1 wr1 z1 jj1 lt1 u lm sj) (wc := mw G am u lm sj) (w1 := fun v => mw G am v.1 v.2.1 v.2.2) (wa' := fun v => LWd G ax am x1 wn1 wa1 w01 w11 rd1 wr1 z1 jj1 lt1 v.1 v.2.1 v.2.2) ⟨hx, hb, hml, hown, htl⟩ (mt_X5_feed l G am _ u lm sj (nI ja) Mv Ml Mt Mh hMI) (cwV 1 htl gL_law_X5_feed rfl rfl rfl (by decide +kernel) ⟨Nat.le_of_ble_eq_true rfl, Nat.le_of_ble_eq_true rfl⟩) hK hN hP hD hS hA [55, 56, 57, 58, 59, 60, 61, 62, 63, 64, 65, 66, 67, 68, 69, 70, 71, 72, 73, 74, 75, 76, 77, 78, 79, 80] (lmc G ax am x1 wn1 wa1 w01 w11 rd1 wr1 z1 jj1 lt1 u lm sj) (by decide) (lmf G ax am x1 wn1 wa1 w01 w11 rd1 wr1 z1 jj1 lt1 u lm sj) (fun v => lml G ax am x1 wn1 wa1 w01 w11 rd1 wr1 z1 jj1 lt1 u lm sj v) (fun v => lmo G ax am x1 wn1 wa1 w01 w11 rd1 wr1 z1 jj1 lt1 u lm sj v) (fun v => lmm G ax am x1 wn1 wa1 w01 w11 rd1 wr1 z1 jj1 lt1 u lm sj v) 0 5 rfl rfl rfl hl.1 rfl (Nat.le_of_ble_eq_true rfl) ⟨Nat.le_of_ble_eq_true rfl, Nat.le_of_ble_eq_true rfl⟩ dL_law_175 (fun rM vM H locs hwM hP hD hS => ?_)
    obtain ⟨u1, lm1, sj1⟩ := vM
    have hP : PP G (LWd G ax am x1 wn1 wa1 w01 w11 rd1 wr1 z1 jj1 lt1 u1 lm1 sj1) H := hP
    have hD : va_D (fun q : Nat => s.heap.size ≤ q) (LWd G ax am x1 wn1 wa1 w01 w11 rd1 wr1 z1 jj1 lt1 u1 lm1 sj1) := hD
    obtain ⟨hM1, k32, k33, k11, hwM⟩ := hwM
    have hlen : len = Mt := nI_inj4 (by omega) (by omega) (eulen.symm.trans m10)
    rcases hwM with ⟨rfl, k10, k9, hnc⟩ | ⟨⟨jc, hjc, ejc⟩, hlc, rfl, k10, k9⟩ | ⟨⟨jc, hjc, ejc⟩, hlc, rfl, k10, k9⟩
    · skip
      exact absurd rfl (hnc ja hja)
    · skip
      refine lv_icmp_eq (tgt := 1004) hx hb dL_law_178 (by decide) (fun _ => ?_) (fun c9 => absurd (rfl) c9)
      exact kk x1 wn1 wa1 w01 w11 rd1 wr1 z1 jj1 lt1 u1 lm1 sj1 ⟨a1, a2, a3, a4, ⟨len, a5.trans elen, k10.trans eulen, hl240, by rw [k9, a7]; exact hrwt, by rw [k9]; exact hlet⟩, hrel.keep a6 k32 k33, hM1, (a8.trans (hflt)).trans k11.symm⟩ _ _ ls hP hD hS hl
    · skip
      omega
  · skip
    have hP : PP G (LWd G ax am x1 wn1 wa1 w01 w11 rd1 wr1 z1 jj1 lt1 u lm sj) H := hP
    have hD : va_D (fun q : Nat => s.heap.size ≤ q) (LWd G ax am x1 wn1 wa1 w01 w11 rd1 wr1 z1 jj1 lt1 u lm sj) := hD
    refine lv_aload_n hx hb dL_law_169 rfl (lv_at hl 2 rfl) ?_
    refine lv_aload_n hx hb dL_law_170 rfl (lv_at hl 0 rfl) ?_
    refine lv_iload_n hx hb dL_law_171 rfl (lv_at hl 3 rfl) ?_
    refine lv_iconst (v := nI 1) hx hb dL_law_172 (by decide) ?_
    refine lv_iadd hx hb dL_law_173 ?_
    refine topE (y := nI (i + 1)) (nI_add i 1) ?_
    refine va_sld hx hb hX hbl hbA hS hin1 dL_law_174 ?_
    refine topE ey1 ?_
    refine cWi (As := [.int (nI ja)]) (rest := [.int (nI (len + 1))]) (S := oS × Int64 × (Nat → Int64)) (wa := LWd G ax am x1 wn1 wa1 w01 w11 rd1 wr1 z1 jj1 lt1 u lm sj) (wc := mw G am u lm sj) (w1 := fun v => mw G am v.1 v.2.1 v.2.2) (wa' := fun v => LWd G ax am x1 wn1 wa1 w01 w11 rd1 wr1 z1 jj1 lt1 v.1 v.2.1 v.2.2) ⟨hx, hb, hml, hown, htl⟩ (mt_X5_feed l G am _ u lm sj (nI ja) Mv Ml Mt Mh hMI) (cwV 1 htl gL_law_X5_feed rfl rfl rfl (by decide +kernel) ⟨Nat.le_of_ble_eq_true rfl, Nat.le_of_ble_eq_true rfl⟩) hK hN hP hD hS hA [55, 56, 57, 58, 59, 60, 61, 62, 63, 64, 65, 66, 67, 68, 69, 70, 71, 72, 73, 74, 75, 76, 77, 78, 79, 80] (lmc G ax am x1 wn1 wa1 w01 w11 rd1 wr1 z1 jj1 lt1 u lm sj) (by decide) (lmf G ax am x1 wn1 wa1 w01 w11 rd1 wr1 z1 jj1 lt1 u lm sj) (fun v => lml G ax am x1 wn1 wa1 w01 w11 rd1 wr1 z1 jj1 lt1 u lm sj v) (fun v => lmo G ax am x1 wn1 wa1 w01 w11 rd1 wr1 z1 jj1 lt1 u lm sj v) (fun v => lmm G ax am x1 wn1 wa1 w01 w11 rd1 wr1 z1 jj1 lt1 u lm sj v) 0 5 rfl rfl rfl hl.1 rfl (Nat.le_of_ble_eq_true rfl) ⟨Nat.le_of_ble_eq_true rfl, Nat.le_of_ble_eq_true rfl⟩ dL_law_175 (fun rM vM H locs hwM hP hD hS => ?_)
    obtain ⟨u1, lm1, sj1⟩ := vM
    have hP : PP G (LWd G ax am x1 wn1 wa1 w01 w11 rd1 wr1 z1 jj1 lt1 u1 lm1 sj1) H := hP
    have hD : va_D (fun q : Nat => s.heap.size ≤ q) (LWd G ax am x1 wn1 wa1 w01 w11 rd1 wr1 z1 jj1 lt1 u1 lm1 sj1) := hD
    obtain ⟨hM1, k32, k33, k11, hwM⟩ := hwM
    have hlen : len = Mt := nI_inj4 (by omega) (by omega) (eulen.symm.trans m10)
    rcases hwM with ⟨rfl, k10, k9, hnc⟩ | ⟨⟨jc, hjc, ejc⟩, hlc, rfl, k10, k9⟩ | ⟨⟨jc, hjc, ejc⟩, hlc, rfl, k10, k9⟩
    · skip
      exact absurd rfl (hnc ja hja)
    · skip
      omega
    · skip
      refine lv_icmp_eq (tgt := 1004) hx hb dL_law_178 (by decide) (fun _ => ?_) (fun c9 => absurd (congrArg (fun q => nI (q + 1)) hlen) c9)
      exact kk x1 wn1 wa1 w01 w11 rd1 wr1 z1 jj1 lt1 u1 lm1 sj1 ⟨a1, a2, a3, a4, ⟨len + 1, a5, by rw [hlen]; exact k10, by omega, by rw [k9, ← hlen, a7]; exact hrwt.upd _, by rw [k9, ← hlen]; exact upd_all (Q := fun q => ∃ j, j ≤ 255 ∧ q = nI j) hlet ⟨ja, hja, rfl⟩⟩, hrel.keep a6 k32 k33, hM1, (a8.trans (hflt)).trans k11.symm⟩ _ _ ls hP hD hS hl
set_option maxHeartbeats 4000000 in
set_option maxRecDepth 100000 in
theorem lc_1 {p : Program} {l : Launch} {e : Env} {s : State} {m : MethodId} {below : List Frame} {meth : Method} {c : Code} {G : gG} {ax am : Nat → Nat} {b L : Nat} {xs : Nat → Int32} (C0 : lw_At p s m meth c b L xs) (hK : KK G s) (hN : NN s) (i : Nat) (hi : i + 5 ≤ L) (hL : L ≤ 2560) (kk : LKC p l e s m below meth c G ax am b i 1004) : LKC p l e s m below meth c G ax am b i 183 := by
  obtain ⟨hx, hb, hr, hml, hown, hts, hX, hbl, hlocks, hgv⟩ := C0
  have htl : ∀ w ∈ wsL_law, w.before #[Value.ref b] s = true := fun w h => hts w (wsL_law_in w h)
  have hown : s.vm.findClass RL = some m.cls := hown
  have hA : ∀ q : Nat, s.heap.size ≤ q → (fun q : Nat => s.heap.size ≤ q) q := fun _ h => h
  have hbA : ¬ (fun q : Nat => s.heap.size ≤ q) b := Nat.not_le.mpr hbl
  intro x wn wa w0 w1 rd wr z jj lt u lm sj hI H locs ls hP hD hS hl
  obtain ⟨hW1, hW2, hW3, hW4, ⟨len, elen, eulen, hl240, hrwt, hlet⟩, hrel, hMp, hflt⟩ := hI
  obtain ⟨nv, nl, ev, hv24, el5, hl120⟩ := id hW1
  obtain ⟨nva, nla, eva, hva24, ela, hla120⟩ := id hW2
  obtain ⟨nv0, nl0, ev0, hv024, el0, hl0120⟩ := id hW3
  obtain ⟨nv1, nl1, ev1, hv124, el1, hl1120⟩ := id hW4
  obtain ⟨Mv, Ml, Mt, Mh, hMI⟩ := id hMp
  obtain ⟨m0, m4, m10, m27, b24, b120, b240, bh120, hop, hopn, hparV, hsz4, himg⟩ := id hMI
  have hlen : len = Mt := nI_inj4 (by omega) (by omega) (eulen.symm.trans m10)
  refine lv_aload_n hx hb dL_law_183 rfl (lv_at hl 1 rfl) ?_
  refine cWi (As := []) (rest := []) (S := oS × oS × oS × oS × oS × oS × oS × oS × (Nat → Nat → Int64) × Int64) (wa := LWd G ax am x wn wa w0 w1 rd wr z jj lt u lm sj) (wc := xw G ax x wn wa w0 w1 rd wr z jj lt) (w1 := fun v => xw G ax v.1 v.2.1 v.2.2.1 v.2.2.2.1 v.2.2.2.2.1 v.2.2.2.2.2.1 v.2.2.2.2.2.2.1 v.2.2.2.2.2.2.2.1 v.2.2.2.2.2.2.2.2.1 v.2.2.2.2.2.2.2.2.2) (wa' := fun v => LWd G ax am v.1 v.2.1 v.2.2.1 v.2.2.2.1 v.2.2.2.2.1 v.2.2.2.2.2.1 v.2.2.2.2.2.2.1 v.2.2.2.2.2.2.2.1 v.2.2.2.2.2.2.2.2.1 v.2.2.2.2.2.2.2.2.2 u lm sj) ⟨hx, hb, hml, hown, htl⟩ (mt_X4_weave l G ax _ x wn wa w0 w1 rd wr z jj lt nv nl nva nla nv0 nl0 nv1 nl1 len (u.2 9) ev el5 eva ela ev0 el0 ev1 el1 elen hv24 hl120 hva24 hla120 hv024 hl0120 hv124 hl1120 hl240 hrel.sz hrwt hlet) (cwV 0 htl gL_law_X4_weave rfl rfl rfl (by decide +kernel) ⟨Nat.le_of_ble_eq_true rfl, Nat.le_of_ble_eq_true rfl⟩) hK hN hP hD hS hA [0, 1, 2, 3, 4, 5, 6, 7, 8, 9, 10, 11, 12, 13, 14, 15, 16, 17, 18, 19, 20, 21, 22, 23, 24, 25, 26, 27, 28, 29, 30, 31, 32, 33, 34, 35, 36, 37, 38, 39, 40, 41, 42, 43, 44, 45, 46, 47, 48, 49, 50, 51, 52, 53, 54] (lxc G ax am x wn wa w0 w1 rd wr z jj lt u lm sj) (by decide) (lxf G ax am x wn wa w0 w1 rd wr z jj lt u lm sj) (fun v => lxl G ax am x wn wa w0 w1 rd wr z jj lt u lm sj v) (fun v => lxo G ax am x wn wa w0 w1 rd wr z jj lt u lm sj v) (fun v => lxm G ax am x wn wa w0 w1 rd wr z jj lt u lm sj v) 0 4 rfl rfl rfl hl.1 rfl (Nat.le_of_ble_eq_true rfl) ⟨Nat.le_of_ble_eq_true rfl, Nat.le_of_ble_eq_true rfl⟩ dL_law_184 (fun rX vX H locs hwX hP hD hS => ?_)
  obtain ⟨rsX, hEX, ⟨x1, wn1, wa1, w01, w11, rd1, wr1, z1, jj1, lt1, rfl, a1, a2, a3, a4, a5, a6⟩, hcX⟩ := hwX
  have hP : PP G (LWd G ax am x1 wn1 wa1 w01 w11 rd1 wr1 z1 jj1 lt1 u lm sj) H := hP
  have hD : va_D (fun q : Nat => s.heap.size ≤ q) (LWd G ax am x1 wn1 wa1 w01 w11 rd1 wr1 z1 jj1 lt1 u lm sj) := hD
  refine lv_pop hx hb dL_law_187 rfl ?_
  refine lv_aload_n hx hb dL_law_188 rfl (lv_at hl 2 rfl) ?_
  refine cWi (As := []) (rest := []) (S := oS × Int64 × (Nat → Int64)) (wa := LWd G ax am x1 wn1 wa1 w01 w11 rd1 wr1 z1 jj1 lt1 u lm sj) (wc := mw G am u lm sj) (w1 := fun v => mw G am v.1 v.2.1 v.2.2) (wa' := fun v => LWd G ax am x1 wn1 wa1 w01 w11 rd1 wr1 z1 jj1 lt1 v.1 v.2.1 v.2.2) ⟨hx, hb, hml, hown, htl⟩ (mt_X5_weave l G am _ u lm sj (u.2 9) Mv Ml Mt Mh hMI rfl (fun i hi => hlet i (by omega))) (cwV 0 htl gL_law_X5_weave rfl rfl rfl (by decide +kernel) ⟨Nat.le_of_ble_eq_true rfl, Nat.le_of_ble_eq_true rfl⟩) hK hN hP hD hS hA [55, 56, 57, 58, 59, 60, 61, 62, 63, 64, 65, 66, 67, 68, 69, 70, 71, 72, 73, 74, 75, 76, 77, 78, 79, 80] (lmc G ax am x1 wn1 wa1 w01 w11 rd1 wr1 z1 jj1 lt1 u lm sj) (by decide) (lmf G ax am x1 wn1 wa1 w01 w11 rd1 wr1 z1 jj1 lt1 u lm sj) (fun v => lml G ax am x1 wn1 wa1 w01 w11 rd1 wr1 z1 jj1 lt1 u lm sj v) (fun v => lmo G ax am x1 wn1 wa1 w01 w11 rd1 wr1 z1 jj1 lt1 u lm sj v) (fun v => lmm G ax am x1 wn1 wa1 w01 w11 rd1 wr1 z1 jj1 lt1 u lm sj v) 0 5 rfl rfl rfl hl.1 rfl (Nat.le_of_ble_eq_true rfl) ⟨Nat.le_of_ble_eq_true rfl, Nat.le_of_ble_eq_true rfl⟩ dL_law_189 (fun rM vM H locs hwM hP hD hS => ?_)
  obtain ⟨u1, lm1, sj1⟩ := vM
  have hP : PP G (LWd G ax am x1 wn1 wa1 w01 w11 rd1 wr1 z1 jj1 lt1 u1 lm1 sj1) H := hP
  have hD : va_D (fun q : Nat => s.heap.size ≤ q) (LWd G ax am x1 wn1 wa1 w01 w11 rd1 wr1 z1 jj1 lt1 u1 lm1 sj1) := hD
  obtain ⟨rsM, hEM, k10, hM1, k32, k33, hcM⟩ := hwM
  have hlen : len = Mt := nI_inj4 (by omega) (by omega) (eulen.symm.trans m10)
  rw [← hlen] at hEM
  have hrs := pEv_det hEX hEM
  subst hrs
  obtain ⟨hrr, hfl⟩ := wv_eq hcX (hcM.imp (fun q => ⟨q.1, q.2.1, q.2.2.1⟩) (fun q => ⟨q.1, q.2.1, q.2.2.1⟩))
  refine lv_pop hx hb dL_law_192 rfl ?_
  refine lv_goto (tgt := 1004) hx hb dL_law_193 (by decide) ?_
  exact kk x1 wn1 wa1 w01 w11 rd1 wr1 z1 jj1 lt1 u1 lm1 sj1 ⟨a1, a2, a3, a4, ⟨0, a5, k10, by omega, rwE_0 _ _, fun i hi => absurd hi (Nat.not_lt_zero i)⟩, hrel.keep a6 k32 k33, hM1, hfl⟩ _ _ ls hP hD hS hl
set_option maxHeartbeats 4000000 in
set_option maxRecDepth 100000 in
theorem lc_2 {p : Program} {l : Launch} {e : Env} {s : State} {m : MethodId} {below : List Frame} {meth : Method} {c : Code} {G : gG} {ax am : Nat → Nat} {b L : Nat} {xs : Nat → Int32} (C0 : lw_At p s m meth c b L xs) (hK : KK G s) (hN : NN s) (i : Nat) (hi : i + 5 ≤ L) (hL : L ≤ 2560) (kk : LKC p l e s m below meth c G ax am b i 1004) : LKC p l e s m below meth c G ax am b i 196 := by
  obtain ⟨hx, hb, hr, hml, hown, hts, hX, hbl, hlocks, hgv⟩ := C0
  have htl : ∀ w ∈ wsL_law, w.before #[Value.ref b] s = true := fun w h => hts w (wsL_law_in w h)
  have hown : s.vm.findClass RL = some m.cls := hown
  have hA : ∀ q : Nat, s.heap.size ≤ q → (fun q : Nat => s.heap.size ≤ q) q := fun _ h => h
  have hbA : ¬ (fun q : Nat => s.heap.size ≤ q) b := Nat.not_le.mpr hbl
  intro x wn wa w0 w1 rd wr z jj lt u lm sj hI H locs ls hP hD hS hl
  obtain ⟨hW1, hW2, hW3, hW4, ⟨len, elen, eulen, hl240, hrwt, hlet⟩, hrel, hMp, hflt⟩ := hI
  obtain ⟨nv, nl, ev, hv24, el5, hl120⟩ := id hW1
  obtain ⟨nva, nla, eva, hva24, ela, hla120⟩ := id hW2
  obtain ⟨nv0, nl0, ev0, hv024, el0, hl0120⟩ := id hW3
  obtain ⟨nv1, nl1, ev1, hv124, el1, hl1120⟩ := id hW4
  obtain ⟨Mv, Ml, Mt, Mh, hMI⟩ := id hMp
  obtain ⟨m0, m4, m10, m27, b24, b120, b240, bh120, hop, hopn, hparV, hsz4, himg⟩ := id hMI
  have hlen : len = Mt := nI_inj4 (by omega) (by omega) (eulen.symm.trans m10)
  refine lv_aload_n hx hb dL_law_196 rfl (lv_at hl 1 rfl) ?_
  refine cRi (w := xw G ax x wn wa w0 w1 rd wr z jj lt) (As := []) (rest := []) ⟨hx, hb, hml, hown, htl⟩ (mt_X4_fault l G ax x wn wa w0 w1 rd wr z jj lt nv nl ev el5 hv24 hl120) (cwV 0 htl gL_law_X4_fault rfl rfl rfl (by decide +kernel) ⟨Nat.le_of_ble_eq_true rfl, Nat.le_of_ble_eq_true rfl⟩) hK hN (hP.sub [0, 1, 2, 3, 4, 5, 6, 7, 8, 9, 10, 11, 12, 13, 14, 15, 16, 17, 18, 19, 20, 21, 22, 23, 24, 25, 26, 27, 28, 29, 30, 31, 32, 33, 34, 35, 36, 37, 38, 39, 40, 41, 42, 43, 44, 45, 46, 47, 48, 49, 50, 51, 52, 53, 54] (lxf G ax am x wn wa w0 w1 rd wr z jj lt u lm sj)) 0 4 rfl rfl rfl hl.1 rfl (Nat.le_of_ble_eq_true rfl) ⟨Nat.le_of_ble_eq_true rfl, Nat.le_of_ble_eq_true rfl⟩ dL_law_197 (fun rX hwX => ?_)
  refine lv_pop hx hb dL_law_200 rfl ?_
  refine lv_aload_n hx hb dL_law_201 rfl (lv_at hl 2 rfl) ?_
  refine cRi (w := mw G am u lm sj) (As := []) (rest := []) ⟨hx, hb, hml, hown, htl⟩ (mt_X5_fault l G am u lm sj) (cwV 0 htl gL_law_X5_fault rfl rfl rfl (by decide +kernel) ⟨Nat.le_of_ble_eq_true rfl, Nat.le_of_ble_eq_true rfl⟩) hK hN (hP.sub [55, 56, 57, 58, 59, 60, 61, 62, 63, 64, 65, 66, 67, 68, 69, 70, 71, 72, 73, 74, 75, 76, 77, 78, 79, 80] (lmf G ax am x wn wa w0 w1 rd wr z jj lt u lm sj)) 0 5 rfl rfl rfl hl.1 rfl (Nat.le_of_ble_eq_true rfl) ⟨Nat.le_of_ble_eq_true rfl, Nat.le_of_ble_eq_true rfl⟩ dL_law_202 (fun rM hwM => ?_)
  refine lv_pop hx hb dL_law_205 rfl ?_
  refine lv_goto (tgt := 1004) hx hb dL_law_206 (by decide) ?_
  exact kk x wn wa w0 w1 rd wr z jj lt u lm sj ⟨hW1, hW2, hW3, hW4, ⟨len, elen, eulen, hl240, hrwt, hlet⟩, hrel.keep rfl rfl rfl, hMp, hflt⟩ _ _ ls hP hD hS hl
set_option maxHeartbeats 4000000 in
set_option maxRecDepth 100000 in
theorem lc_3 {p : Program} {l : Launch} {e : Env} {s : State} {m : MethodId} {below : List Frame} {meth : Method} {c : Code} {G : gG} {ax am : Nat → Nat} {b L : Nat} {xs : Nat → Int32} (C0 : lw_At p s m meth c b L xs) (hK : KK G s) (hN : NN s) (i : Nat) (hi : i + 5 ≤ L) (hL : L ≤ 2560) (kk : LKC p l e s m below meth c G ax am b i 1004) : LKC p l e s m below meth c G ax am b i 209 := by
  obtain ⟨hx, hb, hr, hml, hown, hts, hX, hbl, hlocks, hgv⟩ := C0
  have htl : ∀ w ∈ wsL_law, w.before #[Value.ref b] s = true := fun w h => hts w (wsL_law_in w h)
  have hown : s.vm.findClass RL = some m.cls := hown
  have hA : ∀ q : Nat, s.heap.size ≤ q → (fun q : Nat => s.heap.size ≤ q) q := fun _ h => h
  have hbA : ¬ (fun q : Nat => s.heap.size ≤ q) b := Nat.not_le.mpr hbl
  intro x wn wa w0 w1 rd wr z jj lt u lm sj hI H locs ls hP hD hS hl
  obtain ⟨hW1, hW2, hW3, hW4, ⟨len, elen, eulen, hl240, hrwt, hlet⟩, hrel, hMp, hflt⟩ := hI
  obtain ⟨nv, nl, ev, hv24, el5, hl120⟩ := id hW1
  obtain ⟨nva, nla, eva, hva24, ela, hla120⟩ := id hW2
  obtain ⟨nv0, nl0, ev0, hv024, el0, hl0120⟩ := id hW3
  obtain ⟨nv1, nl1, ev1, hv124, el1, hl1120⟩ := id hW4
  obtain ⟨Mv, Ml, Mt, Mh, hMI⟩ := id hMp
  obtain ⟨m0, m4, m10, m27, b24, b120, b240, bh120, hop, hopn, hparV, hsz4, himg⟩ := id hMI
  have hlen : len = Mt := nI_inj4 (by omega) (by omega) (eulen.symm.trans m10)
  have hin1 : vp_in (nI (i + 1)) L := vp_in_nI (by omega) (by omega)
  generalize ey1 : xs (nI (i + 1)).toNatClampNeg = y1
  refine lv_aload_n hx hb dL_law_209 rfl (lv_at hl 1 rfl) ?_
  refine lv_aload_n hx hb dL_law_210 rfl (lv_at hl 0 rfl) ?_
  refine lv_iload_n hx hb dL_law_211 rfl (lv_at hl 3 rfl) ?_
  refine lv_iconst (v := nI 1) hx hb dL_law_212 (by decide) ?_
  refine lv_iadd hx hb dL_law_213 ?_
  refine topE (y := nI (i + 1)) (nI_add i 1) ?_
  refine va_sld hx hb hX hbl hbA hS hin1 dL_law_214 ?_
  refine topE ey1 ?_
  refine cRi (w := xw G ax x wn wa w0 w1 rd wr z jj lt) (As := [.int y1]) (rest := []) ⟨hx, hb, hml, hown, htl⟩ (mt_X4_told l G ax x wn wa w0 w1 rd wr z jj lt nv nl y1 ev el5 hv24 hl120) (cwV 1 htl gL_law_X4_told rfl rfl rfl (by decide +kernel) ⟨Nat.le_of_ble_eq_true rfl, Nat.le_of_ble_eq_true rfl⟩) hK hN (hP.sub [0, 1, 2, 3, 4, 5, 6, 7, 8, 9, 10, 11, 12, 13, 14, 15, 16, 17, 18, 19, 20, 21, 22, 23, 24, 25, 26, 27, 28, 29, 30, 31, 32, 33, 34, 35, 36, 37, 38, 39, 40, 41, 42, 43, 44, 45, 46, 47, 48, 49, 50, 51, 52, 53, 54] (lxf G ax am x wn wa w0 w1 rd wr z jj lt u lm sj)) 0 4 rfl rfl rfl hl.1 rfl (Nat.le_of_ble_eq_true rfl) ⟨Nat.le_of_ble_eq_true rfl, Nat.le_of_ble_eq_true rfl⟩ dL_law_215 (fun rX hwX => ?_)
  refine lv_pop hx hb dL_law_218 rfl ?_
  refine lv_aload_n hx hb dL_law_219 rfl (lv_at hl 2 rfl) ?_
  refine lv_aload_n hx hb dL_law_220 rfl (lv_at hl 0 rfl) ?_
  refine lv_iload_n hx hb dL_law_221 rfl (lv_at hl 3 rfl) ?_
  refine lv_iconst (v := nI 1) hx hb dL_law_222 (by decide) ?_
  refine lv_iadd hx hb dL_law_223 ?_
  refine topE (y := nI (i + 1)) (nI_add i 1) ?_
  refine va_sld hx hb hX hbl hbA hS hin1 dL_law_224 ?_
  refine topE ey1 ?_
  refine cWi (As := [.int y1]) (rest := []) (S := oS × Int64 × (Nat → Int64)) (wa := LWd G ax am x wn wa w0 w1 rd wr z jj lt u lm sj) (wc := mw G am u lm sj) (w1 := fun v => mw G am v.1 v.2.1 v.2.2) (wa' := fun v => LWd G ax am x wn wa w0 w1 rd wr z jj lt v.1 v.2.1 v.2.2) ⟨hx, hb, hml, hown, htl⟩ (mt_X5_told l G am _ u lm sj y1 Mv Ml Mt Mh hMI) (cwV 1 htl gL_law_X5_told rfl rfl rfl (by decide +kernel) ⟨Nat.le_of_ble_eq_true rfl, Nat.le_of_ble_eq_true rfl⟩) hK hN hP hD hS hA [55, 56, 57, 58, 59, 60, 61, 62, 63, 64, 65, 66, 67, 68, 69, 70, 71, 72, 73, 74, 75, 76, 77, 78, 79, 80] (lmc G ax am x wn wa w0 w1 rd wr z jj lt u lm sj) (by decide) (lmf G ax am x wn wa w0 w1 rd wr z jj lt u lm sj) (fun v => lml G ax am x wn wa w0 w1 rd wr z jj lt u lm sj v) (fun v => lmo G ax am x wn wa w0 w1 rd wr z jj lt u lm sj v) (fun v => lmm G ax am x wn wa w0 w1 rd wr z jj lt u lm sj v) 0 5 rfl rfl rfl hl.1 rfl (Nat.le_of_ble_eq_true rfl) ⟨Nat.le_of_ble_eq_true rfl, Nat.le_of_ble_eq_true rfl⟩ dL_law_225 (fun rM vM H locs hwM hP hD hS => ?_)
  obtain ⟨u1, lm1, sj1⟩ := vM
  have hP : PP G (LWd G ax am x wn wa w0 w1 rd wr z jj lt u1 lm1 sj1) H := hP
  have hD : va_D (fun q : Nat => s.heap.size ≤ q) (LWd G ax am x wn wa w0 w1 rd wr z jj lt u1 lm1 sj1) := hD
  obtain ⟨hM1, ⟨k32, k33, k10⟩, k9, k11⟩ := hwM
  refine lv_pop hx hb dL_law_228 rfl ?_
  refine lv_goto (tgt := 1004) hx hb dL_law_229 (by decide) ?_
  exact kk x wn wa w0 w1 rd wr z jj lt u1 lm1 sj1 ⟨hW1, hW2, hW3, hW4, ⟨len, elen, k10.trans eulen, hl240, by rw [k9]; exact hrwt, by rw [k9]; exact hlet⟩, hrel.keep rfl k32 k33, hM1, (hflt).trans k11.symm⟩ _ _ ls hP hD hS hl
set_option maxHeartbeats 4000000 in
set_option maxRecDepth 100000 in
theorem lc_4 {p : Program} {l : Launch} {e : Env} {s : State} {m : MethodId} {below : List Frame} {meth : Method} {c : Code} {G : gG} {ax am : Nat → Nat} {b L : Nat} {xs : Nat → Int32} (C0 : lw_At p s m meth c b L xs) (hK : KK G s) (hN : NN s) (i : Nat) (hi : i + 5 ≤ L) (hL : L ≤ 2560) (kk : LKC p l e s m below meth c G ax am b i 1004) : LKC p l e s m below meth c G ax am b i 232 := by
  obtain ⟨hx, hb, hr, hml, hown, hts, hX, hbl, hlocks, hgv⟩ := C0
  have htl : ∀ w ∈ wsL_law, w.before #[Value.ref b] s = true := fun w h => hts w (wsL_law_in w h)
  have hown : s.vm.findClass RL = some m.cls := hown
  have hA : ∀ q : Nat, s.heap.size ≤ q → (fun q : Nat => s.heap.size ≤ q) q := fun _ h => h
  have hbA : ¬ (fun q : Nat => s.heap.size ≤ q) b := Nat.not_le.mpr hbl
  intro x wn wa w0 w1 rd wr z jj lt u lm sj hI H locs ls hP hD hS hl
  obtain ⟨hW1, hW2, hW3, hW4, ⟨len, elen, eulen, hl240, hrwt, hlet⟩, hrel, hMp, hflt⟩ := hI
  obtain ⟨nv, nl, ev, hv24, el5, hl120⟩ := id hW1
  obtain ⟨nva, nla, eva, hva24, ela, hla120⟩ := id hW2
  obtain ⟨nv0, nl0, ev0, hv024, el0, hl0120⟩ := id hW3
  obtain ⟨nv1, nl1, ev1, hv124, el1, hl1120⟩ := id hW4
  obtain ⟨Mv, Ml, Mt, Mh, hMI⟩ := id hMp
  obtain ⟨m0, m4, m10, m27, b24, b120, b240, bh120, hop, hopn, hparV, hsz4, himg⟩ := id hMI
  have hlen : len = Mt := nI_inj4 (by omega) (by omega) (eulen.symm.trans m10)
  have hin1 : vp_in (nI (i + 1)) L := vp_in_nI (by omega) (by omega)
  generalize ey1 : xs (nI (i + 1)).toNatClampNeg = y1
  have hin2 : vp_in (nI (i + 2)) L := vp_in_nI (by omega) (by omega)
  generalize ey2 : xs (nI (i + 2)).toNatClampNeg = y2
  refine lv_aload_n hx hb dL_law_232 rfl (lv_at hl 1 rfl) ?_
  refine lv_aload_n hx hb dL_law_233 rfl (lv_at hl 0 rfl) ?_
  refine lv_iload_n hx hb dL_law_234 rfl (lv_at hl 3 rfl) ?_
  refine lv_iconst (v := nI 1) hx hb dL_law_235 (by decide) ?_
  refine lv_iadd hx hb dL_law_236 ?_
  refine topE (y := nI (i + 1)) (nI_add i 1) ?_
  refine va_sld hx hb hX hbl hbA hS hin1 dL_law_237 ?_
  refine topE ey1 ?_
  refine lv_aload_n hx hb dL_law_238 rfl (lv_at hl 0 rfl) ?_
  refine lv_iload_n hx hb dL_law_239 rfl (lv_at hl 3 rfl) ?_
  refine lv_iconst (v := nI 2) hx hb dL_law_240 (by decide) ?_
  refine lv_iadd hx hb dL_law_241 ?_
  refine topE (y := nI (i + 2)) (nI_add i 2) ?_
  refine va_sld hx hb hX hbl hbA hS hin2 dL_law_242 ?_
  refine topE ey2 ?_
  refine cRi (w := xw G ax x wn wa w0 w1 rd wr z jj lt) (As := [.int y1, .int y2]) (rest := []) ⟨hx, hb, hml, hown, htl⟩ (mt_X4_version l G ax x wn wa w0 w1 rd wr z jj lt nv nl y1 y2 ev el5 hv24 hl120) (cwV 2 htl gL_law_X4_version rfl rfl rfl (by decide +kernel) ⟨Nat.le_of_ble_eq_true rfl, Nat.le_of_ble_eq_true rfl⟩) hK hN (hP.sub [0, 1, 2, 3, 4, 5, 6, 7, 8, 9, 10, 11, 12, 13, 14, 15, 16, 17, 18, 19, 20, 21, 22, 23, 24, 25, 26, 27, 28, 29, 30, 31, 32, 33, 34, 35, 36, 37, 38, 39, 40, 41, 42, 43, 44, 45, 46, 47, 48, 49, 50, 51, 52, 53, 54] (lxf G ax am x wn wa w0 w1 rd wr z jj lt u lm sj)) 0 4 rfl rfl rfl hl.1 rfl (Nat.le_of_ble_eq_true rfl) ⟨Nat.le_of_ble_eq_true rfl, Nat.le_of_ble_eq_true rfl⟩ dL_law_243 (fun rX hwX => ?_)
  refine lv_pop hx hb dL_law_246 rfl ?_
  refine lv_aload_n hx hb dL_law_247 rfl (lv_at hl 2 rfl) ?_
  refine lv_aload_n hx hb dL_law_248 rfl (lv_at hl 0 rfl) ?_
  refine lv_iload_n hx hb dL_law_249 rfl (lv_at hl 3 rfl) ?_
  refine lv_iconst (v := nI 1) hx hb dL_law_250 (by decide) ?_
  refine lv_iadd hx hb dL_law_251 ?_
  refine topE (y := nI (i + 1)) (nI_add i 1) ?_
  refine va_sld hx hb hX hbl hbA hS hin1 dL_law_252 ?_
  refine topE ey1 ?_
  refine lv_aload_n hx hb dL_law_253 rfl (lv_at hl 0 rfl) ?_
  refine lv_iload_n hx hb dL_law_254 rfl (lv_at hl 3 rfl) ?_
  refine lv_iconst (v := nI 2) hx hb dL_law_255 (by decide) ?_
  refine lv_iadd hx hb dL_law_256 ?_
  refine topE (y := nI (i + 2)) (nI_add i 2) ?_
  refine va_sld hx hb hX hbl hbA hS hin2 dL_law_257 ?_
  refine topE ey2 ?_
  refine cWi (As := [.int y1, .int y2]) (rest := []) (S := oS × Int64 × (Nat → Int64)) (wa := LWd G ax am x wn wa w0 w1 rd wr z jj lt u lm sj) (wc := mw G am u lm sj) (w1 := fun v => mw G am v.1 v.2.1 v.2.2) (wa' := fun v => LWd G ax am x wn wa w0 w1 rd wr z jj lt v.1 v.2.1 v.2.2) ⟨hx, hb, hml, hown, htl⟩ (mt_X5_version l G am _ u lm sj y1 y2 Mv Ml Mt Mh hMI) (cwV 2 htl gL_law_X5_version rfl rfl rfl (by decide +kernel) ⟨Nat.le_of_ble_eq_true rfl, Nat.le_of_ble_eq_true rfl⟩) hK hN hP hD hS hA [55, 56, 57, 58, 59, 60, 61, 62, 63, 64, 65, 66, 67, 68, 69, 70, 71, 72, 73, 74, 75, 76, 77, 78, 79, 80] (lmc G ax am x wn wa w0 w1 rd wr z jj lt u lm sj) (by decide) (lmf G ax am x wn wa w0 w1 rd wr z jj lt u lm sj) (fun v => lml G ax am x wn wa w0 w1 rd wr z jj lt u lm sj v) (fun v => lmo G ax am x wn wa w0 w1 rd wr z jj lt u lm sj v) (fun v => lmm G ax am x wn wa w0 w1 rd wr z jj lt u lm sj v) 0 5 rfl rfl rfl hl.1 rfl (Nat.le_of_ble_eq_true rfl) ⟨Nat.le_of_ble_eq_true rfl, Nat.le_of_ble_eq_true rfl⟩ dL_law_258 (fun rM vM H locs hwM hP hD hS => ?_)
  obtain ⟨u1, lm1, sj1⟩ := vM
  have hP : PP G (LWd G ax am x wn wa w0 w1 rd wr z jj lt u1 lm1 sj1) H := hP
  have hD : va_D (fun q : Nat => s.heap.size ≤ q) (LWd G ax am x wn wa w0 w1 rd wr z jj lt u1 lm1 sj1) := hD
  obtain ⟨hM1, ⟨k32, k33, k10⟩, k9, k11⟩ := hwM
  refine lv_pop hx hb dL_law_261 rfl ?_
  refine lv_goto (tgt := 1004) hx hb dL_law_262 (by decide) ?_
  exact kk x wn wa w0 w1 rd wr z jj lt u1 lm1 sj1 ⟨hW1, hW2, hW3, hW4, ⟨len, elen, k10.trans eulen, hl240, by rw [k9]; exact hrwt, by rw [k9]; exact hlet⟩, hrel.keep rfl k32 k33, hM1, (hflt).trans k11.symm⟩ _ _ ls hP hD hS hl
set_option maxHeartbeats 4000000 in
set_option maxRecDepth 100000 in
theorem lc_5 {p : Program} {l : Launch} {e : Env} {s : State} {m : MethodId} {below : List Frame} {meth : Method} {c : Code} {G : gG} {ax am : Nat → Nat} {b L : Nat} {xs : Nat → Int32} (C0 : lw_At p s m meth c b L xs) (hK : KK G s) (hN : NN s) (i : Nat) (hi : i + 5 ≤ L) (hL : L ≤ 2560) (kk : LKC p l e s m below meth c G ax am b i 1004) : LKC p l e s m below meth c G ax am b i 265 := by
  obtain ⟨hx, hb, hr, hml, hown, hts, hX, hbl, hlocks, hgv⟩ := C0
  have htl : ∀ w ∈ wsL_law, w.before #[Value.ref b] s = true := fun w h => hts w (wsL_law_in w h)
  have hown : s.vm.findClass RL = some m.cls := hown
  have hA : ∀ q : Nat, s.heap.size ≤ q → (fun q : Nat => s.heap.size ≤ q) q := fun _ h => h
  have hbA : ¬ (fun q : Nat => s.heap.size ≤ q) b := Nat.not_le.mpr hbl
  intro x wn wa w0 w1 rd wr z jj lt u lm sj hI H locs ls hP hD hS hl
  obtain ⟨hW1, hW2, hW3, hW4, ⟨len, elen, eulen, hl240, hrwt, hlet⟩, hrel, hMp, hflt⟩ := hI
  obtain ⟨nv, nl, ev, hv24, el5, hl120⟩ := id hW1
  obtain ⟨nva, nla, eva, hva24, ela, hla120⟩ := id hW2
  obtain ⟨nv0, nl0, ev0, hv024, el0, hl0120⟩ := id hW3
  obtain ⟨nv1, nl1, ev1, hv124, el1, hl1120⟩ := id hW4
  obtain ⟨Mv, Ml, Mt, Mh, hMI⟩ := id hMp
  obtain ⟨m0, m4, m10, m27, b24, b120, b240, bh120, hop, hopn, hparV, hsz4, himg⟩ := id hMI
  have hlen : len = Mt := nI_inj4 (by omega) (by omega) (eulen.symm.trans m10)
  have hin1 : vp_in (nI (i + 1)) L := vp_in_nI (by omega) (by omega)
  generalize ey1 : xs (nI (i + 1)).toNatClampNeg = y1
  have hin2 : vp_in (nI (i + 2)) L := vp_in_nI (by omega) (by omega)
  generalize ey2 : xs (nI (i + 2)).toNatClampNeg = y2
  refine lv_aload_n hx hb dL_law_265 rfl (lv_at hl 1 rfl) ?_
  refine lv_aload_n hx hb dL_law_266 rfl (lv_at hl 0 rfl) ?_
  refine lv_iload_n hx hb dL_law_267 rfl (lv_at hl 3 rfl) ?_
  refine lv_iconst (v := nI 1) hx hb dL_law_268 (by decide) ?_
  refine lv_iadd hx hb dL_law_269 ?_
  refine topE (y := nI (i + 1)) (nI_add i 1) ?_
  refine va_sld hx hb hX hbl hbA hS hin1 dL_law_270 ?_
  refine topE ey1 ?_
  refine lv_aload_n hx hb dL_law_271 rfl (lv_at hl 0 rfl) ?_
  refine lv_iload_n hx hb dL_law_272 rfl (lv_at hl 3 rfl) ?_
  refine lv_iconst (v := nI 2) hx hb dL_law_273 (by decide) ?_
  refine lv_iadd hx hb dL_law_274 ?_
  refine topE (y := nI (i + 2)) (nI_add i 2) ?_
  refine va_sld hx hb hX hbl hbA hS hin2 dL_law_275 ?_
  refine topE ey2 ?_
  refine cRi (w := xw G ax x wn wa w0 w1 rd wr z jj lt) (As := [.int y1, .int y2]) (rest := []) ⟨hx, hb, hml, hown, htl⟩ (mt_X4_line l G ax x wn wa w0 w1 rd wr z jj lt nv nl y1 y2 ev el5 hv24 hl120) (cwV 2 htl gL_law_X4_line rfl rfl rfl (by decide +kernel) ⟨Nat.le_of_ble_eq_true rfl, Nat.le_of_ble_eq_true rfl⟩) hK hN (hP.sub [0, 1, 2, 3, 4, 5, 6, 7, 8, 9, 10, 11, 12, 13, 14, 15, 16, 17, 18, 19, 20, 21, 22, 23, 24, 25, 26, 27, 28, 29, 30, 31, 32, 33, 34, 35, 36, 37, 38, 39, 40, 41, 42, 43, 44, 45, 46, 47, 48, 49, 50, 51, 52, 53, 54] (lxf G ax am x wn wa w0 w1 rd wr z jj lt u lm sj)) 0 4 rfl rfl rfl hl.1 rfl (Nat.le_of_ble_eq_true rfl) ⟨Nat.le_of_ble_eq_true rfl, Nat.le_of_ble_eq_true rfl⟩ dL_law_276 (fun rX hwX => ?_)
  refine lv_pop hx hb dL_law_279 rfl ?_
  refine lv_aload_n hx hb dL_law_280 rfl (lv_at hl 2 rfl) ?_
  refine lv_aload_n hx hb dL_law_281 rfl (lv_at hl 0 rfl) ?_
  refine lv_iload_n hx hb dL_law_282 rfl (lv_at hl 3 rfl) ?_
  refine lv_iconst (v := nI 1) hx hb dL_law_283 (by decide) ?_
  refine lv_iadd hx hb dL_law_284 ?_
  refine topE (y := nI (i + 1)) (nI_add i 1) ?_
  refine va_sld hx hb hX hbl hbA hS hin1 dL_law_285 ?_
  refine topE ey1 ?_
  refine lv_aload_n hx hb dL_law_286 rfl (lv_at hl 0 rfl) ?_
  refine lv_iload_n hx hb dL_law_287 rfl (lv_at hl 3 rfl) ?_
  refine lv_iconst (v := nI 2) hx hb dL_law_288 (by decide) ?_
  refine lv_iadd hx hb dL_law_289 ?_
  refine topE (y := nI (i + 2)) (nI_add i 2) ?_
  refine va_sld hx hb hX hbl hbA hS hin2 dL_law_290 ?_
  refine topE ey2 ?_
  refine cWi (As := [.int y1, .int y2]) (rest := []) (S := oS × Int64 × (Nat → Int64)) (wa := LWd G ax am x wn wa w0 w1 rd wr z jj lt u lm sj) (wc := mw G am u lm sj) (w1 := fun v => mw G am v.1 v.2.1 v.2.2) (wa' := fun v => LWd G ax am x wn wa w0 w1 rd wr z jj lt v.1 v.2.1 v.2.2) ⟨hx, hb, hml, hown, htl⟩ (mt_X5_line l G am _ u lm sj y1 y2 Mv Ml Mt Mh hMI) (cwV 2 htl gL_law_X5_line rfl rfl rfl (by decide +kernel) ⟨Nat.le_of_ble_eq_true rfl, Nat.le_of_ble_eq_true rfl⟩) hK hN hP hD hS hA [55, 56, 57, 58, 59, 60, 61, 62, 63, 64, 65, 66, 67, 68, 69, 70, 71, 72, 73, 74, 75, 76, 77, 78, 79, 80] (lmc G ax am x wn wa w0 w1 rd wr z jj lt u lm sj) (by decide) (lmf G ax am x wn wa w0 w1 rd wr z jj lt u lm sj) (fun v => lml G ax am x wn wa w0 w1 rd wr z jj lt u lm sj v) (fun v => lmo G ax am x wn wa w0 w1 rd wr z jj lt u lm sj v) (fun v => lmm G ax am x wn wa w0 w1 rd wr z jj lt u lm sj v) 0 5 rfl rfl rfl hl.1 rfl (Nat.le_of_ble_eq_true rfl) ⟨Nat.le_of_ble_eq_true rfl, Nat.le_of_ble_eq_true rfl⟩ dL_law_291 (fun rM vM H locs hwM hP hD hS => ?_)
  obtain ⟨u1, lm1, sj1⟩ := vM
  have hP : PP G (LWd G ax am x wn wa w0 w1 rd wr z jj lt u1 lm1 sj1) H := hP
  have hD : va_D (fun q : Nat => s.heap.size ≤ q) (LWd G ax am x wn wa w0 w1 rd wr z jj lt u1 lm1 sj1) := hD
  obtain ⟨hM1, ⟨k32, k33, k10⟩, k9, k11⟩ := hwM
  refine lv_pop hx hb dL_law_294 rfl ?_
  refine lv_goto (tgt := 1004) hx hb dL_law_295 (by decide) ?_
  exact kk x wn wa w0 w1 rd wr z jj lt u1 lm1 sj1 ⟨hW1, hW2, hW3, hW4, ⟨len, elen, k10.trans eulen, hl240, by rw [k9]; exact hrwt, by rw [k9]; exact hlet⟩, hrel.keep rfl k32 k33, hM1, (hflt).trans k11.symm⟩ _ _ ls hP hD hS hl
set_option maxHeartbeats 4000000 in
set_option maxRecDepth 100000 in
theorem lc_6 {p : Program} {l : Launch} {e : Env} {s : State} {m : MethodId} {below : List Frame} {meth : Method} {c : Code} {G : gG} {ax am : Nat → Nat} {b L : Nat} {xs : Nat → Int32} (C0 : lw_At p s m meth c b L xs) (hK : KK G s) (hN : NN s) (i : Nat) (hi : i + 5 ≤ L) (hL : L ≤ 2560) (kk : LKC p l e s m below meth c G ax am b i 1004) : LKC p l e s m below meth c G ax am b i 298 := by
  obtain ⟨hx, hb, hr, hml, hown, hts, hX, hbl, hlocks, hgv⟩ := C0
  have htl : ∀ w ∈ wsL_law, w.before #[Value.ref b] s = true := fun w h => hts w (wsL_law_in w h)
  have hown : s.vm.findClass RL = some m.cls := hown
  have hA : ∀ q : Nat, s.heap.size ≤ q → (fun q : Nat => s.heap.size ≤ q) q := fun _ h => h
  have hbA : ¬ (fun q : Nat => s.heap.size ≤ q) b := Nat.not_le.mpr hbl
  intro x wn wa w0 w1 rd wr z jj lt u lm sj hI H locs ls hP hD hS hl
  obtain ⟨hW1, hW2, hW3, hW4, ⟨len, elen, eulen, hl240, hrwt, hlet⟩, hrel, hMp, hflt⟩ := hI
  obtain ⟨nv, nl, ev, hv24, el5, hl120⟩ := id hW1
  obtain ⟨nva, nla, eva, hva24, ela, hla120⟩ := id hW2
  obtain ⟨nv0, nl0, ev0, hv024, el0, hl0120⟩ := id hW3
  obtain ⟨nv1, nl1, ev1, hv124, el1, hl1120⟩ := id hW4
  obtain ⟨Mv, Ml, Mt, Mh, hMI⟩ := id hMp
  obtain ⟨m0, m4, m10, m27, b24, b120, b240, bh120, hop, hopn, hparV, hsz4, himg⟩ := id hMI
  have hlen : len = Mt := nI_inj4 (by omega) (by omega) (eulen.symm.trans m10)
  have hin1 : vp_in (nI (i + 1)) L := vp_in_nI (by omega) (by omega)
  generalize ey1 : xs (nI (i + 1)).toNatClampNeg = y1
  have hin2 : vp_in (nI (i + 2)) L := vp_in_nI (by omega) (by omega)
  generalize ey2 : xs (nI (i + 2)).toNatClampNeg = y2
  have hin3 : vp_in (nI (i + 3)) L := vp_in_nI (by omega) (by omega)
  generalize ey3 : xs (nI (i + 3)).toNatClampNeg = y3
  refine lv_aload_n hx hb dL_law_298 rfl (lv_at hl 1 rfl) ?_
  refine lv_aload_n hx hb dL_law_299 rfl (lv_at hl 0 rfl) ?_
  refine lv_iload_n hx hb dL_law_300 rfl (lv_at hl 3 rfl) ?_
  refine lv_iconst (v := nI 1) hx hb dL_law_301 (by decide) ?_
  refine lv_iadd hx hb dL_law_302 ?_
  refine topE (y := nI (i + 1)) (nI_add i 1) ?_
  refine va_sld hx hb hX hbl hbA hS hin1 dL_law_303 ?_
  refine topE ey1 ?_
  refine lv_aload_n hx hb dL_law_304 rfl (lv_at hl 0 rfl) ?_
  refine lv_iload_n hx hb dL_law_305 rfl (lv_at hl 3 rfl) ?_
  refine lv_iconst (v := nI 2) hx hb dL_law_306 (by decide) ?_
  refine lv_iadd hx hb dL_law_307 ?_
  refine topE (y := nI (i + 2)) (nI_add i 2) ?_
  refine va_sld hx hb hX hbl hbA hS hin2 dL_law_308 ?_
  refine topE ey2 ?_
  refine lv_aload_n hx hb dL_law_309 rfl (lv_at hl 0 rfl) ?_
  refine lv_iload_n hx hb dL_law_310 rfl (lv_at hl 3 rfl) ?_
  refine lv_iconst (v := nI 3) hx hb dL_law_311 (by decide) ?_
  refine lv_iadd hx hb dL_law_312 ?_
  refine topE (y := nI (i + 3)) (nI_add i 3) ?_
  refine va_sld hx hb hX hbl hbA hS hin3 dL_law_313 ?_
  refine topE ey3 ?_
  refine cRi (w := xw G ax x wn wa w0 w1 rd wr z jj lt) (As := [.int y1, .int y2, .int y3]) (rest := []) ⟨hx, hb, hml, hown, htl⟩ (mt_X4_text l G ax x wn wa w0 w1 rd wr z jj lt nv nl y1 y2 y3 ev el5 hv24 hl120) (cwV 3 htl gL_law_X4_text rfl rfl rfl (by decide +kernel) ⟨Nat.le_of_ble_eq_true rfl, Nat.le_of_ble_eq_true rfl⟩) hK hN (hP.sub [0, 1, 2, 3, 4, 5, 6, 7, 8, 9, 10, 11, 12, 13, 14, 15, 16, 17, 18, 19, 20, 21, 22, 23, 24, 25, 26, 27, 28, 29, 30, 31, 32, 33, 34, 35, 36, 37, 38, 39, 40, 41, 42, 43, 44, 45, 46, 47, 48, 49, 50, 51, 52, 53, 54] (lxf G ax am x wn wa w0 w1 rd wr z jj lt u lm sj)) 0 4 rfl rfl rfl hl.1 rfl (Nat.le_of_ble_eq_true rfl) ⟨Nat.le_of_ble_eq_true rfl, Nat.le_of_ble_eq_true rfl⟩ dL_law_314 (fun rX hwX => ?_)
  refine lv_pop hx hb dL_law_317 rfl ?_
  refine lv_aload_n hx hb dL_law_318 rfl (lv_at hl 2 rfl) ?_
  refine lv_aload_n hx hb dL_law_319 rfl (lv_at hl 0 rfl) ?_
  refine lv_iload_n hx hb dL_law_320 rfl (lv_at hl 3 rfl) ?_
  refine lv_iconst (v := nI 1) hx hb dL_law_321 (by decide) ?_
  refine lv_iadd hx hb dL_law_322 ?_
  refine topE (y := nI (i + 1)) (nI_add i 1) ?_
  refine va_sld hx hb hX hbl hbA hS hin1 dL_law_323 ?_
  refine topE ey1 ?_
  refine lv_aload_n hx hb dL_law_324 rfl (lv_at hl 0 rfl) ?_
  refine lv_iload_n hx hb dL_law_325 rfl (lv_at hl 3 rfl) ?_
  refine lv_iconst (v := nI 2) hx hb dL_law_326 (by decide) ?_
  refine lv_iadd hx hb dL_law_327 ?_
  refine topE (y := nI (i + 2)) (nI_add i 2) ?_
  refine va_sld hx hb hX hbl hbA hS hin2 dL_law_328 ?_
  refine topE ey2 ?_
  refine lv_aload_n hx hb dL_law_329 rfl (lv_at hl 0 rfl) ?_
  refine lv_iload_n hx hb dL_law_330 rfl (lv_at hl 3 rfl) ?_
  refine lv_iconst (v := nI 3) hx hb dL_law_331 (by decide) ?_
  refine lv_iadd hx hb dL_law_332 ?_
  refine topE (y := nI (i + 3)) (nI_add i 3) ?_
  refine va_sld hx hb hX hbl hbA hS hin3 dL_law_333 ?_
  refine topE ey3 ?_
  refine cWi (As := [.int y1, .int y2, .int y3]) (rest := []) (S := oS × Int64 × (Nat → Int64)) (wa := LWd G ax am x wn wa w0 w1 rd wr z jj lt u lm sj) (wc := mw G am u lm sj) (w1 := fun v => mw G am v.1 v.2.1 v.2.2) (wa' := fun v => LWd G ax am x wn wa w0 w1 rd wr z jj lt v.1 v.2.1 v.2.2) ⟨hx, hb, hml, hown, htl⟩ (mt_X5_text l G am _ u lm sj y1 y2 y3 Mv Ml Mt Mh hMI) (cwV 3 htl gL_law_X5_text rfl rfl rfl (by decide +kernel) ⟨Nat.le_of_ble_eq_true rfl, Nat.le_of_ble_eq_true rfl⟩) hK hN hP hD hS hA [55, 56, 57, 58, 59, 60, 61, 62, 63, 64, 65, 66, 67, 68, 69, 70, 71, 72, 73, 74, 75, 76, 77, 78, 79, 80] (lmc G ax am x wn wa w0 w1 rd wr z jj lt u lm sj) (by decide) (lmf G ax am x wn wa w0 w1 rd wr z jj lt u lm sj) (fun v => lml G ax am x wn wa w0 w1 rd wr z jj lt u lm sj v) (fun v => lmo G ax am x wn wa w0 w1 rd wr z jj lt u lm sj v) (fun v => lmm G ax am x wn wa w0 w1 rd wr z jj lt u lm sj v) 0 5 rfl rfl rfl hl.1 rfl (Nat.le_of_ble_eq_true rfl) ⟨Nat.le_of_ble_eq_true rfl, Nat.le_of_ble_eq_true rfl⟩ dL_law_334 (fun rM vM H locs hwM hP hD hS => ?_)
  obtain ⟨u1, lm1, sj1⟩ := vM
  have hP : PP G (LWd G ax am x wn wa w0 w1 rd wr z jj lt u1 lm1 sj1) H := hP
  have hD : va_D (fun q : Nat => s.heap.size ≤ q) (LWd G ax am x wn wa w0 w1 rd wr z jj lt u1 lm1 sj1) := hD
  obtain ⟨hM1, ⟨k32, k33, k10⟩, k9, k11⟩ := hwM
  refine lv_pop hx hb dL_law_337 rfl ?_
  refine lv_goto (tgt := 1004) hx hb dL_law_338 (by decide) ?_
  exact kk x wn wa w0 w1 rd wr z jj lt u1 lm1 sj1 ⟨hW1, hW2, hW3, hW4, ⟨len, elen, k10.trans eulen, hl240, by rw [k9]; exact hrwt, by rw [k9]; exact hlet⟩, hrel.keep rfl k32 k33, hM1, (hflt).trans k11.symm⟩ _ _ ls hP hD hS hl
set_option maxHeartbeats 4000000 in
set_option maxRecDepth 100000 in
theorem lc_7 {p : Program} {l : Launch} {e : Env} {s : State} {m : MethodId} {below : List Frame} {meth : Method} {c : Code} {G : gG} {ax am : Nat → Nat} {b L : Nat} {xs : Nat → Int32} (C0 : lw_At p s m meth c b L xs) (hK : KK G s) (hN : NN s) (i : Nat) (hi : i + 5 ≤ L) (hL : L ≤ 2560) (kk : LKC p l e s m below meth c G ax am b i 1004) : LKC p l e s m below meth c G ax am b i 341 := by
  obtain ⟨hx, hb, hr, hml, hown, hts, hX, hbl, hlocks, hgv⟩ := C0
  have htl : ∀ w ∈ wsL_law, w.before #[Value.ref b] s = true := fun w h => hts w (wsL_law_in w h)
  have hown : s.vm.findClass RL = some m.cls := hown
  have hA : ∀ q : Nat, s.heap.size ≤ q → (fun q : Nat => s.heap.size ≤ q) q := fun _ h => h
  have hbA : ¬ (fun q : Nat => s.heap.size ≤ q) b := Nat.not_le.mpr hbl
  intro x wn wa w0 w1 rd wr z jj lt u lm sj hI H locs ls hP hD hS hl
  obtain ⟨hW1, hW2, hW3, hW4, ⟨len, elen, eulen, hl240, hrwt, hlet⟩, hrel, hMp, hflt⟩ := hI
  obtain ⟨nv, nl, ev, hv24, el5, hl120⟩ := id hW1
  obtain ⟨nva, nla, eva, hva24, ela, hla120⟩ := id hW2
  obtain ⟨nv0, nl0, ev0, hv024, el0, hl0120⟩ := id hW3
  obtain ⟨nv1, nl1, ev1, hv124, el1, hl1120⟩ := id hW4
  obtain ⟨Mv, Ml, Mt, Mh, hMI⟩ := id hMp
  obtain ⟨m0, m4, m10, m27, b24, b120, b240, bh120, hop, hopn, hparV, hsz4, himg⟩ := id hMI
  have hlen : len = Mt := nI_inj4 (by omega) (by omega) (eulen.symm.trans m10)
  have hin1 : vp_in (nI (i + 1)) L := vp_in_nI (by omega) (by omega)
  generalize ey1 : xs (nI (i + 1)).toNatClampNeg = y1
  refine lv_aload_n hx hb dL_law_341 rfl (lv_at hl 1 rfl) ?_
  refine lv_aload_n hx hb dL_law_342 rfl (lv_at hl 0 rfl) ?_
  refine lv_iload_n hx hb dL_law_343 rfl (lv_at hl 3 rfl) ?_
  refine lv_iconst (v := nI 1) hx hb dL_law_344 (by decide) ?_
  refine lv_iadd hx hb dL_law_345 ?_
  refine topE (y := nI (i + 1)) (nI_add i 1) ?_
  refine va_sld hx hb hX hbl hbA hS hin1 dL_law_346 ?_
  refine topE ey1 ?_
  refine cWi (As := [.int y1]) (rest := []) (S := oS × oS × oS × oS × oS × oS × oS × oS × (Nat → Nat → Int64) × Int64) (wa := LWd G ax am x wn wa w0 w1 rd wr z jj lt u lm sj) (wc := xw G ax x wn wa w0 w1 rd wr z jj lt) (w1 := fun v => xw G ax v.1 v.2.1 v.2.2.1 v.2.2.2.1 v.2.2.2.2.1 v.2.2.2.2.2.1 v.2.2.2.2.2.2.1 v.2.2.2.2.2.2.2.1 v.2.2.2.2.2.2.2.2.1 v.2.2.2.2.2.2.2.2.2) (wa' := fun v => LWd G ax am v.1 v.2.1 v.2.2.1 v.2.2.2.1 v.2.2.2.2.1 v.2.2.2.2.2.1 v.2.2.2.2.2.2.1 v.2.2.2.2.2.2.2.1 v.2.2.2.2.2.2.2.2.1 v.2.2.2.2.2.2.2.2.2 u lm sj) ⟨hx, hb, hml, hown, htl⟩ (mt_X4_open l G ax _ x wn wa w0 w1 rd wr z jj lt nv nl nva nla nv0 nl0 nv1 nl1 len y1 ev el5 eva ela ev0 el0 ev1 el1 elen hv24 hl120 hva24 hla120 hv024 hl0120 hv124 hl1120 hl240 hrel.sz) (cwV 1 htl gL_law_X4_open rfl rfl rfl (by decide +kernel) ⟨Nat.le_of_ble_eq_true rfl, Nat.le_of_ble_eq_true rfl⟩) hK hN hP hD hS hA [0, 1, 2, 3, 4, 5, 6, 7, 8, 9, 10, 11, 12, 13, 14, 15, 16, 17, 18, 19, 20, 21, 22, 23, 24, 25, 26, 27, 28, 29, 30, 31, 32, 33, 34, 35, 36, 37, 38, 39, 40, 41, 42, 43, 44, 45, 46, 47, 48, 49, 50, 51, 52, 53, 54] (lxc G ax am x wn wa w0 w1 rd wr z jj lt u lm sj) (by decide) (lxf G ax am x wn wa w0 w1 rd wr z jj lt u lm sj) (fun v => lxl G ax am x wn wa w0 w1 rd wr z jj lt u lm sj v) (fun v => lxo G ax am x wn wa w0 w1 rd wr z jj lt u lm sj v) (fun v => lxm G ax am x wn wa w0 w1 rd wr z jj lt u lm sj v) 0 4 rfl rfl rfl hl.1 rfl (Nat.le_of_ble_eq_true rfl) ⟨Nat.le_of_ble_eq_true rfl, Nat.le_of_ble_eq_true rfl⟩ dL_law_347 (fun rX vX H locs hwX hP hD hS => ?_)
  obtain ⟨x1, wn1, wa1, w01, w11, rd1, wr1, z1, jj1, lt1, rfl, a1, a2, a3, a4, a5, a6, a7, a8⟩ := hwX
  have hP : PP G (LWd G ax am x1 wn1 wa1 w01 w11 rd1 wr1 z1 jj1 lt1 u lm sj) H := hP
  have hD : va_D (fun q : Nat => s.heap.size ≤ q) (LWd G ax am x1 wn1 wa1 w01 w11 rd1 wr1 z1 jj1 lt1 u lm sj) := hD
  refine lv_pop hx hb dL_law_350 rfl ?_
  refine lv_aload_n hx hb dL_law_351 rfl (lv_at hl 2 rfl) ?_
  refine lv_aload_n hx hb dL_law_352 rfl (lv_at hl 0 rfl) ?_
  refine lv_iload_n hx hb dL_law_353 rfl (lv_at hl 3 rfl) ?_
  refine lv_iconst (v := nI 1) hx hb dL_law_354 (by decide) ?_
  refine lv_iadd hx hb dL_law_355 ?_
  refine topE (y := nI (i + 1)) (nI_add i 1) ?_
  refine va_sld hx hb hX hbl hbA hS hin1 dL_law_356 ?_
  refine topE ey1 ?_
  refine cWi (As := [.int y1]) (rest := []) (S := oS × Int64 × (Nat → Int64)) (wa := LWd G ax am x1 wn1 wa1 w01 w11 rd1 wr1 z1 jj1 lt1 u lm sj) (wc := mw G am u lm sj) (w1 := fun v => mw G am v.1 v.2.1 v.2.2) (wa' := fun v => LWd G ax am x1 wn1 wa1 w01 w11 rd1 wr1 z1 jj1 lt1 v.1 v.2.1 v.2.2) ⟨hx, hb, hml, hown, htl⟩ (mt_X5_open l G am _ u lm sj y1 Mv Ml Mt Mh hMI) (cwV 1 htl gL_law_X5_open rfl rfl rfl (by decide +kernel) ⟨Nat.le_of_ble_eq_true rfl, Nat.le_of_ble_eq_true rfl⟩) hK hN hP hD hS hA [55, 56, 57, 58, 59, 60, 61, 62, 63, 64, 65, 66, 67, 68, 69, 70, 71, 72, 73, 74, 75, 76, 77, 78, 79, 80] (lmc G ax am x1 wn1 wa1 w01 w11 rd1 wr1 z1 jj1 lt1 u lm sj) (by decide) (lmf G ax am x1 wn1 wa1 w01 w11 rd1 wr1 z1 jj1 lt1 u lm sj) (fun v => lml G ax am x1 wn1 wa1 w01 w11 rd1 wr1 z1 jj1 lt1 u lm sj v) (fun v => lmo G ax am x1 wn1 wa1 w01 w11 rd1 wr1 z1 jj1 lt1 u lm sj v) (fun v => lmm G ax am x1 wn1 wa1 w01 w11 rd1 wr1 z1 jj1 lt1 u lm sj v) 0 5 rfl rfl rfl hl.1 rfl (Nat.le_of_ble_eq_true rfl) ⟨Nat.le_of_ble_eq_true rfl, Nat.le_of_ble_eq_true rfl⟩ dL_law_357 (fun rM vM H locs hwM hP hD hS => ?_)
  obtain ⟨u1, lm1, sj1⟩ := vM
  have hP : PP G (LWd G ax am x1 wn1 wa1 w01 w11 rd1 wr1 z1 jj1 lt1 u1 lm1 sj1) H := hP
  have hD : va_D (fun q : Nat => s.heap.size ≤ q) (LWd G ax am x1 wn1 wa1 w01 w11 rd1 wr1 z1 jj1 lt1 u1 lm1 sj1) := hD
  obtain ⟨hM1, ⟨k32, k33, k10⟩, k9, k11⟩ := hwM
  refine lv_pop hx hb dL_law_360 rfl ?_
  refine lv_goto (tgt := 1004) hx hb dL_law_361 (by decide) ?_
  exact kk x1 wn1 wa1 w01 w11 rd1 wr1 z1 jj1 lt1 u1 lm1 sj1 ⟨a1, a2, a3, a4, ⟨len, a5.trans elen, k10.trans eulen, hl240, by rw [k9, a7]; exact hrwt, by rw [k9]; exact hlet⟩, hrel.keep a6 k32 k33, hM1, (a8.trans (hflt)).trans k11.symm⟩ _ _ ls hP hD hS hl
set_option maxHeartbeats 4000000 in
set_option maxRecDepth 100000 in
theorem lc_8 {p : Program} {l : Launch} {e : Env} {s : State} {m : MethodId} {below : List Frame} {meth : Method} {c : Code} {G : gG} {ax am : Nat → Nat} {b L : Nat} {xs : Nat → Int32} (C0 : lw_At p s m meth c b L xs) (hK : KK G s) (hN : NN s) (i : Nat) (hi : i + 5 ≤ L) (hL : L ≤ 2560) (kk : LKC p l e s m below meth c G ax am b i 1004) : LKC p l e s m below meth c G ax am b i 364 := by
  obtain ⟨hx, hb, hr, hml, hown, hts, hX, hbl, hlocks, hgv⟩ := C0
  have htl : ∀ w ∈ wsL_law, w.before #[Value.ref b] s = true := fun w h => hts w (wsL_law_in w h)
  have hown : s.vm.findClass RL = some m.cls := hown
  have hA : ∀ q : Nat, s.heap.size ≤ q → (fun q : Nat => s.heap.size ≤ q) q := fun _ h => h
  have hbA : ¬ (fun q : Nat => s.heap.size ≤ q) b := Nat.not_le.mpr hbl
  intro x wn wa w0 w1 rd wr z jj lt u lm sj hI H locs ls hP hD hS hl
  obtain ⟨hW1, hW2, hW3, hW4, ⟨len, elen, eulen, hl240, hrwt, hlet⟩, hrel, hMp, hflt⟩ := hI
  obtain ⟨nv, nl, ev, hv24, el5, hl120⟩ := id hW1
  obtain ⟨nva, nla, eva, hva24, ela, hla120⟩ := id hW2
  obtain ⟨nv0, nl0, ev0, hv024, el0, hl0120⟩ := id hW3
  obtain ⟨nv1, nl1, ev1, hv124, el1, hl1120⟩ := id hW4
  obtain ⟨Mv, Ml, Mt, Mh, hMI⟩ := id hMp
  obtain ⟨m0, m4, m10, m27, b24, b120, b240, bh120, hop, hopn, hparV, hsz4, himg⟩ := id hMI
  have hlen : len = Mt := nI_inj4 (by omega) (by omega) (eulen.symm.trans m10)
  have hin1 : vp_in (nI (i + 1)) L := vp_in_nI (by omega) (by omega)
  generalize ey1 : xs (nI (i + 1)).toNatClampNeg = y1
  refine lv_aload_n hx hb dL_law_364 rfl (lv_at hl 1 rfl) ?_
  refine lv_aload_n hx hb dL_law_365 rfl (lv_at hl 0 rfl) ?_
  refine lv_iload_n hx hb dL_law_366 rfl (lv_at hl 3 rfl) ?_
  refine lv_iconst (v := nI 1) hx hb dL_law_367 (by decide) ?_
  refine lv_iadd hx hb dL_law_368 ?_
  refine topE (y := nI (i + 1)) (nI_add i 1) ?_
  refine va_sld hx hb hX hbl hbA hS hin1 dL_law_369 ?_
  refine topE ey1 ?_
  refine cWi (As := [.int y1]) (rest := []) (S := oS × oS × oS × oS × oS × oS × oS × oS × (Nat → Nat → Int64) × Int64) (wa := LWd G ax am x wn wa w0 w1 rd wr z jj lt u lm sj) (wc := xw G ax x wn wa w0 w1 rd wr z jj lt) (w1 := fun v => xw G ax v.1 v.2.1 v.2.2.1 v.2.2.2.1 v.2.2.2.2.1 v.2.2.2.2.2.1 v.2.2.2.2.2.2.1 v.2.2.2.2.2.2.2.1 v.2.2.2.2.2.2.2.2.1 v.2.2.2.2.2.2.2.2.2) (wa' := fun v => LWd G ax am v.1 v.2.1 v.2.2.1 v.2.2.2.1 v.2.2.2.2.1 v.2.2.2.2.2.1 v.2.2.2.2.2.2.1 v.2.2.2.2.2.2.2.1 v.2.2.2.2.2.2.2.2.1 v.2.2.2.2.2.2.2.2.2 u lm sj) ⟨hx, hb, hml, hown, htl⟩ (mt_X4_include l G ax _ x wn wa w0 w1 rd wr z jj lt nv nl nva nla nv0 nl0 nv1 nl1 len y1 ev el5 eva ela ev0 el0 ev1 el1 elen hv24 hl120 hva24 hla120 hv024 hl0120 hv124 hl1120 hl240 hrel.sz) (cwV 1 htl gL_law_X4_include rfl rfl rfl (by decide +kernel) ⟨Nat.le_of_ble_eq_true rfl, Nat.le_of_ble_eq_true rfl⟩) hK hN hP hD hS hA [0, 1, 2, 3, 4, 5, 6, 7, 8, 9, 10, 11, 12, 13, 14, 15, 16, 17, 18, 19, 20, 21, 22, 23, 24, 25, 26, 27, 28, 29, 30, 31, 32, 33, 34, 35, 36, 37, 38, 39, 40, 41, 42, 43, 44, 45, 46, 47, 48, 49, 50, 51, 52, 53, 54] (lxc G ax am x wn wa w0 w1 rd wr z jj lt u lm sj) (by decide) (lxf G ax am x wn wa w0 w1 rd wr z jj lt u lm sj) (fun v => lxl G ax am x wn wa w0 w1 rd wr z jj lt u lm sj v) (fun v => lxo G ax am x wn wa w0 w1 rd wr z jj lt u lm sj v) (fun v => lxm G ax am x wn wa w0 w1 rd wr z jj lt u lm sj v) 0 4 rfl rfl rfl hl.1 rfl (Nat.le_of_ble_eq_true rfl) ⟨Nat.le_of_ble_eq_true rfl, Nat.le_of_ble_eq_true rfl⟩ dL_law_370 (fun rX vX H locs hwX hP hD hS => ?_)
  obtain ⟨x1, wn1, wa1, w01, w11, rd1, wr1, z1, jj1, lt1, rfl, a1, a2, a3, a4, a5, a6, a7, a8⟩ := hwX
  have hP : PP G (LWd G ax am x1 wn1 wa1 w01 w11 rd1 wr1 z1 jj1 lt1 u lm sj) H := hP
  have hD : va_D (fun q : Nat => s.heap.size ≤ q) (LWd G ax am x1 wn1 wa1 w01 w11 rd1 wr1 z1 jj1 lt1 u lm sj) := hD
  refine lv_pop hx hb dL_law_373 rfl ?_
  refine lv_aload_n hx hb dL_law_374 rfl (lv_at hl 2 rfl) ?_
  refine lv_aload_n hx hb dL_law_375 rfl (lv_at hl 0 rfl) ?_
  refine lv_iload_n hx hb dL_law_376 rfl (lv_at hl 3 rfl) ?_
  refine lv_iconst (v := nI 1) hx hb dL_law_377 (by decide) ?_
  refine lv_iadd hx hb dL_law_378 ?_
  refine topE (y := nI (i + 1)) (nI_add i 1) ?_
  refine va_sld hx hb hX hbl hbA hS hin1 dL_law_379 ?_
  refine topE ey1 ?_
  refine cWi (As := [.int y1]) (rest := []) (S := oS × Int64 × (Nat → Int64)) (wa := LWd G ax am x1 wn1 wa1 w01 w11 rd1 wr1 z1 jj1 lt1 u lm sj) (wc := mw G am u lm sj) (w1 := fun v => mw G am v.1 v.2.1 v.2.2) (wa' := fun v => LWd G ax am x1 wn1 wa1 w01 w11 rd1 wr1 z1 jj1 lt1 v.1 v.2.1 v.2.2) ⟨hx, hb, hml, hown, htl⟩ (mt_X5_include l G am _ u lm sj y1 Mv Ml Mt Mh hMI) (cwV 1 htl gL_law_X5_include rfl rfl rfl (by decide +kernel) ⟨Nat.le_of_ble_eq_true rfl, Nat.le_of_ble_eq_true rfl⟩) hK hN hP hD hS hA [55, 56, 57, 58, 59, 60, 61, 62, 63, 64, 65, 66, 67, 68, 69, 70, 71, 72, 73, 74, 75, 76, 77, 78, 79, 80] (lmc G ax am x1 wn1 wa1 w01 w11 rd1 wr1 z1 jj1 lt1 u lm sj) (by decide) (lmf G ax am x1 wn1 wa1 w01 w11 rd1 wr1 z1 jj1 lt1 u lm sj) (fun v => lml G ax am x1 wn1 wa1 w01 w11 rd1 wr1 z1 jj1 lt1 u lm sj v) (fun v => lmo G ax am x1 wn1 wa1 w01 w11 rd1 wr1 z1 jj1 lt1 u lm sj v) (fun v => lmm G ax am x1 wn1 wa1 w01 w11 rd1 wr1 z1 jj1 lt1 u lm sj v) 0 5 rfl rfl rfl hl.1 rfl (Nat.le_of_ble_eq_true rfl) ⟨Nat.le_of_ble_eq_true rfl, Nat.le_of_ble_eq_true rfl⟩ dL_law_380 (fun rM vM H locs hwM hP hD hS => ?_)
  obtain ⟨u1, lm1, sj1⟩ := vM
  have hP : PP G (LWd G ax am x1 wn1 wa1 w01 w11 rd1 wr1 z1 jj1 lt1 u1 lm1 sj1) H := hP
  have hD : va_D (fun q : Nat => s.heap.size ≤ q) (LWd G ax am x1 wn1 wa1 w01 w11 rd1 wr1 z1 jj1 lt1 u1 lm1 sj1) := hD
  obtain ⟨hM1, ⟨k32, k33, k10⟩, k9, k11⟩ := hwM
  refine lv_pop hx hb dL_law_383 rfl ?_
  refine lv_goto (tgt := 1004) hx hb dL_law_384 (by decide) ?_
  exact kk x1 wn1 wa1 w01 w11 rd1 wr1 z1 jj1 lt1 u1 lm1 sj1 ⟨a1, a2, a3, a4, ⟨len, a5.trans elen, k10.trans eulen, hl240, by rw [k9, a7]; exact hrwt, by rw [k9]; exact hlet⟩, hrel.keep a6 k32 k33, hM1, (a8.trans (hflt)).trans k11.symm⟩ _ _ ls hP hD hS hl
set_option maxHeartbeats 4000000 in
set_option maxRecDepth 100000 in
theorem lc_9 {p : Program} {l : Launch} {e : Env} {s : State} {m : MethodId} {below : List Frame} {meth : Method} {c : Code} {G : gG} {ax am : Nat → Nat} {b L : Nat} {xs : Nat → Int32} (C0 : lw_At p s m meth c b L xs) (hK : KK G s) (hN : NN s) (i : Nat) (hi : i + 5 ≤ L) (hL : L ≤ 2560) (kk : LKC p l e s m below meth c G ax am b i 1004) : LKC p l e s m below meth c G ax am b i 387 := by
  obtain ⟨hx, hb, hr, hml, hown, hts, hX, hbl, hlocks, hgv⟩ := C0
  have htl : ∀ w ∈ wsL_law, w.before #[Value.ref b] s = true := fun w h => hts w (wsL_law_in w h)
  have hown : s.vm.findClass RL = some m.cls := hown
  have hA : ∀ q : Nat, s.heap.size ≤ q → (fun q : Nat => s.heap.size ≤ q) q := fun _ h => h
  have hbA : ¬ (fun q : Nat => s.heap.size ≤ q) b := Nat.not_le.mpr hbl
  intro x wn wa w0 w1 rd wr z jj lt u lm sj hI H locs ls hP hD hS hl
  obtain ⟨hW1, hW2, hW3, hW4, ⟨len, elen, eulen, hl240, hrwt, hlet⟩, hrel, hMp, hflt⟩ := hI
  obtain ⟨nv, nl, ev, hv24, el5, hl120⟩ := id hW1
  obtain ⟨nva, nla, eva, hva24, ela, hla120⟩ := id hW2
  obtain ⟨nv0, nl0, ev0, hv024, el0, hl0120⟩ := id hW3
  obtain ⟨nv1, nl1, ev1, hv124, el1, hl1120⟩ := id hW4
  obtain ⟨Mv, Ml, Mt, Mh, hMI⟩ := id hMp
  obtain ⟨m0, m4, m10, m27, b24, b120, b240, bh120, hop, hopn, hparV, hsz4, himg⟩ := id hMI
  have hlen : len = Mt := nI_inj4 (by omega) (by omega) (eulen.symm.trans m10)
  have hin1 : vp_in (nI (i + 1)) L := vp_in_nI (by omega) (by omega)
  generalize ey1 : xs (nI (i + 1)).toNatClampNeg = y1
  refine lv_aload_n hx hb dL_law_387 rfl (lv_at hl 1 rfl) ?_
  refine lv_aload_n hx hb dL_law_388 rfl (lv_at hl 0 rfl) ?_
  refine lv_iload_n hx hb dL_law_389 rfl (lv_at hl 3 rfl) ?_
  refine lv_iconst (v := nI 1) hx hb dL_law_390 (by decide) ?_
  refine lv_iadd hx hb dL_law_391 ?_
  refine topE (y := nI (i + 1)) (nI_add i 1) ?_
  refine va_sld hx hb hX hbl hbA hS hin1 dL_law_392 ?_
  refine topE ey1 ?_
  refine cWi (As := [.int y1]) (rest := []) (S := oS × oS × oS × oS × oS × oS × oS × oS × (Nat → Nat → Int64) × Int64) (wa := LWd G ax am x wn wa w0 w1 rd wr z jj lt u lm sj) (wc := xw G ax x wn wa w0 w1 rd wr z jj lt) (w1 := fun v => xw G ax v.1 v.2.1 v.2.2.1 v.2.2.2.1 v.2.2.2.2.1 v.2.2.2.2.2.1 v.2.2.2.2.2.2.1 v.2.2.2.2.2.2.2.1 v.2.2.2.2.2.2.2.2.1 v.2.2.2.2.2.2.2.2.2) (wa' := fun v => LWd G ax am v.1 v.2.1 v.2.2.1 v.2.2.2.1 v.2.2.2.2.1 v.2.2.2.2.2.1 v.2.2.2.2.2.2.1 v.2.2.2.2.2.2.2.1 v.2.2.2.2.2.2.2.2.1 v.2.2.2.2.2.2.2.2.2 u lm sj) ⟨hx, hb, hml, hown, htl⟩ (mt_X4_exclude l G ax _ x wn wa w0 w1 rd wr z jj lt nv nl nva nla nv0 nl0 nv1 nl1 len y1 ev el5 eva ela ev0 el0 ev1 el1 elen hv24 hl120 hva24 hla120 hv024 hl0120 hv124 hl1120 hl240 hrel.sz) (cwV 1 htl gL_law_X4_exclude rfl rfl rfl (by decide +kernel) ⟨Nat.le_of_ble_eq_true rfl, Nat.le_of_ble_eq_true rfl⟩) hK hN hP hD hS hA [0, 1, 2, 3, 4, 5, 6, 7, 8, 9, 10, 11, 12, 13, 14, 15, 16, 17, 18, 19, 20, 21, 22, 23, 24, 25, 26, 27, 28, 29, 30, 31, 32, 33, 34, 35, 36, 37, 38, 39, 40, 41, 42, 43, 44, 45, 46, 47, 48, 49, 50, 51, 52, 53, 54] (lxc G ax am x wn wa w0 w1 rd wr z jj lt u lm sj) (by decide) (lxf G ax am x wn wa w0 w1 rd wr z jj lt u lm sj) (fun v => lxl G ax am x wn wa w0 w1 rd wr z jj lt u lm sj v) (fun v => lxo G ax am x wn wa w0 w1 rd wr z jj lt u lm sj v) (fun v => lxm G ax am x wn wa w0 w1 rd wr z jj lt u lm sj v) 0 4 rfl rfl rfl hl.1 rfl (Nat.le_of_ble_eq_true rfl) ⟨Nat.le_of_ble_eq_true rfl, Nat.le_of_ble_eq_true rfl⟩ dL_law_393 (fun rX vX H locs hwX hP hD hS => ?_)
  obtain ⟨x1, wn1, wa1, w01, w11, rd1, wr1, z1, jj1, lt1, rfl, a1, a2, a3, a4, a5, a6, a7, a8⟩ := hwX
  have hP : PP G (LWd G ax am x1 wn1 wa1 w01 w11 rd1 wr1 z1 jj1 lt1 u lm sj) H := hP
  have hD : va_D (fun q : Nat => s.heap.size ≤ q) (LWd G ax am x1 wn1 wa1 w01 w11 rd1 wr1 z1 jj1 lt1 u lm sj) := hD
  refine lv_pop hx hb dL_law_396 rfl ?_
  refine lv_aload_n hx hb dL_law_397 rfl (lv_at hl 2 rfl) ?_
  refine lv_aload_n hx hb dL_law_398 rfl (lv_at hl 0 rfl) ?_
  refine lv_iload_n hx hb dL_law_399 rfl (lv_at hl 3 rfl) ?_
  refine lv_iconst (v := nI 1) hx hb dL_law_400 (by decide) ?_
  refine lv_iadd hx hb dL_law_401 ?_
  refine topE (y := nI (i + 1)) (nI_add i 1) ?_
  refine va_sld hx hb hX hbl hbA hS hin1 dL_law_402 ?_
  refine topE ey1 ?_
  refine cWi (As := [.int y1]) (rest := []) (S := oS × Int64 × (Nat → Int64)) (wa := LWd G ax am x1 wn1 wa1 w01 w11 rd1 wr1 z1 jj1 lt1 u lm sj) (wc := mw G am u lm sj) (w1 := fun v => mw G am v.1 v.2.1 v.2.2) (wa' := fun v => LWd G ax am x1 wn1 wa1 w01 w11 rd1 wr1 z1 jj1 lt1 v.1 v.2.1 v.2.2) ⟨hx, hb, hml, hown, htl⟩ (mt_X5_exclude l G am _ u lm sj y1 Mv Ml Mt Mh hMI) (cwV 1 htl gL_law_X5_exclude rfl rfl rfl (by decide +kernel) ⟨Nat.le_of_ble_eq_true rfl, Nat.le_of_ble_eq_true rfl⟩) hK hN hP hD hS hA [55, 56, 57, 58, 59, 60, 61, 62, 63, 64, 65, 66, 67, 68, 69, 70, 71, 72, 73, 74, 75, 76, 77, 78, 79, 80] (lmc G ax am x1 wn1 wa1 w01 w11 rd1 wr1 z1 jj1 lt1 u lm sj) (by decide) (lmf G ax am x1 wn1 wa1 w01 w11 rd1 wr1 z1 jj1 lt1 u lm sj) (fun v => lml G ax am x1 wn1 wa1 w01 w11 rd1 wr1 z1 jj1 lt1 u lm sj v) (fun v => lmo G ax am x1 wn1 wa1 w01 w11 rd1 wr1 z1 jj1 lt1 u lm sj v) (fun v => lmm G ax am x1 wn1 wa1 w01 w11 rd1 wr1 z1 jj1 lt1 u lm sj v) 0 5 rfl rfl rfl hl.1 rfl (Nat.le_of_ble_eq_true rfl) ⟨Nat.le_of_ble_eq_true rfl, Nat.le_of_ble_eq_true rfl⟩ dL_law_403 (fun rM vM H locs hwM hP hD hS => ?_)
  obtain ⟨u1, lm1, sj1⟩ := vM
  have hP : PP G (LWd G ax am x1 wn1 wa1 w01 w11 rd1 wr1 z1 jj1 lt1 u1 lm1 sj1) H := hP
  have hD : va_D (fun q : Nat => s.heap.size ≤ q) (LWd G ax am x1 wn1 wa1 w01 w11 rd1 wr1 z1 jj1 lt1 u1 lm1 sj1) := hD
  obtain ⟨hM1, ⟨k32, k33, k10⟩, k9, k11⟩ := hwM
  refine lv_pop hx hb dL_law_406 rfl ?_
  refine lv_goto (tgt := 1004) hx hb dL_law_407 (by decide) ?_
  exact kk x1 wn1 wa1 w01 w11 rd1 wr1 z1 jj1 lt1 u1 lm1 sj1 ⟨a1, a2, a3, a4, ⟨len, a5.trans elen, k10.trans eulen, hl240, by rw [k9, a7]; exact hrwt, by rw [k9]; exact hlet⟩, hrel.keep a6 k32 k33, hM1, (a8.trans (hflt)).trans k11.symm⟩ _ _ ls hP hD hS hl
