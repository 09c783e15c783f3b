set_option maxHeartbeats 1000000 in
set_option maxRecDepth 100000 in
theorem mt_X4_include (l : Launch) (G : gG) (h : Nat → Nat) (sz : Nat) (x : oS) (wn : oS) (wa : oS) (w0 : oS) (w1 : oS) (rd : oS) (wr : oS) (z : oS) (jj : Nat → Nat → Int64) (lt : Int64) (nv : Nat) (nl : Nat) (nva : Nat) (nla : Nat) (nv0 : Nat) (nl0 : Nat) (nv1 : Nat) (nl1 : Nat) (len : Nat) (a : Int32) (hnv : wn.1 0 = nI nv) (hnl : wn.1 5 = nI nl) (hnva : wa.1 0 = nI nva) (hnla : wa.1 5 = nI nla) (hnv0 : w0.1 0 = nI nv0) (hnl0 : w0.1 5 = nI nl0) (hnv1 : w1.1 0 = nI nv1) (hnl1 : w1.1 5 = nI nl1) (hlen : rd.1 1 = nI len) (hnv24 : nv ≤ 24) (hnl120 : nl ≤ 120) (hva24 : nva ≤ 24) (hla120 : nla ≤ 120) (hv024 : nv0 ≤ 24) (hl0120 : nl0 ≤ 120) (hv124 : nv1 ≤ 24) (hl1120 : nl1 ≤ 120) (hl240 : len ≤ 240) (hsz : ∀ j, j < 4 → z.2 1 j = -1 ∨ ∃ q, q ≤ 40 ∧ z.2 1 j = nI q) : Met l yX4_include wsX4_include ({ frames := 4, cells := 0, slots := 0, locals := 87 }) (preW G (xw G h x wn wa w0 w1 rd wr z jj lt) sz [.ref (h 0), .int a]) (va_Qi (fun (r : Int32) (v : oS × oS × oS × oS × oS × oS × oS × oS × (Nat → Nat → Int64) × Int64) => XQ x rd z v) (fun v t => PP G (xw G h v.1 v.2.1 v.2.2.1 v.2.2.2.1 v.2.2.2.2.1 v.2.2.2.2.2.1 v.2.2.2.2.2.2.1 v.2.2.2.2.2.2.2.1 v.2.2.2.2.2.2.2.2.1 v.2.2.2.2.2.2.2.2.2) t.heap) (va_A (xw G h x wn wa w0 w1 rd wr z jj lt) sz)) 0 0 (va_A (xw G h x wn wa w0 w1 rd wr z jj lt) sz) := by
  refine Met.ofW (cc := cX4_include) (maxL := 2) (ret := (some .int)) (by decide) rfl ?_
  intro p e s m args below meth c s₁ B hml hv
  obtain ⟨ha, hsz, hP, hK, hN, hD0⟩ := hv
  subst ha
  have hx := B.exec
  have hb := B.bytes
  have hr := B.returns
  have hts := atoms_spec (ws := wsX4_include) B.pre
  have hown : s.vm.findClass RX4 = some m.cls := findClass_of_methodNamed B.named
  have hlocks := B.notSynchronized
  subst hsz
  have hD := hD0.self (sz := s.heap.size)
  generalize hAe : va_A (xw G h x wn wa w0 w1 rd wr z jj lt) s.heap.size = A at hD ⊢
  have hA : ∀ q : Nat, s.heap.size ≤ q → A q := fun q h => by rw [← hAe]; exact Or.inr h
  clear hAe hD0
  have hS : va_S A s.heap s.heap [] := va_S.rf
  have hiX4 : ∀ w ∈ wsX40, w ∈ wsX4_include := by decide +kernel
  have k10 := hts (.fieldLink RX4 10 "WovenHistory" "now" "LWovenHistory$Weave;") (List.mem_of_getElem? (i := 1) rfl)
  have k48 := hts (.fieldLink RX4 48 "WovenHistory" "opened" "Z") (List.mem_of_getElem? (i := 3) rfl)
  have hl := lv_entry ([.ref (h 0), .int a]) (n := 2) (Nat.le_of_ble_eq_true rfl)
  rw [lg_entry_eq]
  generalize (lg_sl ([.ref (h 0), .int a]) ++ List.replicate (2 - (lg_sl ([.ref (h 0), .int a])).length) Slot.unset).toArray = ls at hl ⊢
  have hl : lv_has ls 2 [(0, .ref (h 0)), (1, .int a)] := hl
  refine lv_aload_n hx hb dX4_include_0 rfl (lv_at hl 0 rfl) ?_
  refine va_get (D := gD G) (ci := 4) (v := .ref (h 10)) (C := RX4) (T := TX4) (N := 9) hx hb hts hiX4 hown hK hP 0 (xp_0 _ _ _ _ _ _ _ _ _ _ _ _) rfl 0 (by decide) k10 (fun _ h9 => h9) rfl dX4_include_1 ?_
  refine lv_iload_n hx hb dX4_include_4 rfl (lv_at hl 1 rfl) ?_
  refine cRi (w := wv G (fun k => h (10 + k)) wn) (As := [.int a]) (rest := []) ⟨hx, hb, hml, hown, hts⟩ (mt_X3_hasVersion l G (fun k => h (10 + k)) wn nv a (hnv) (by first | assumption | omega)) (cwV 1 hts gX4_include_X3_hasVersion rfl rfl rfl (by decide +kernel) ⟨Nat.le_of_ble_eq_true rfl, Nat.le_of_ble_eq_true rfl⟩) hK hN (hP.sub [3, 4, 5, 6, 7, 8, 9, 10] (xf_now _ _ _ _ _ _ _ _ _ _ _ _)) 0 3 rfl rfl rfl hl.1 rfl (Nat.le_of_ble_eq_true rfl) ⟨Nat.zero_le _, Nat.zero_le _⟩ dX4_include_5 (fun r5 hw5 => ?_)
  rcases hw5 with ⟨rfl, j5, hj5, ej5⟩ | ⟨rfl, hn5⟩
  · skip
    refine lv_if_ne (tgt := 14) hx hb dX4_include_8 (by decide) (fun _ => ?_) (fun c9 => absurd c9 (by decide))
    refine lv_aload_n hx hb dX4_include_14 rfl (lv_at hl 0 rfl) ?_
    refine va_get (D := gD G) (ci := 4) (v := .int (x.1 7)) (C := RX4) (T := TX4) (N := 9) hx hb hts hiX4 hown hK hP 0 (xp_0 _ _ _ _ _ _ _ _ _ _ _ _) rfl 7 (by decide) k48 (fun _ h9 => h9) rfl dX4_include_15 ?_
    refine lv_if_eq (tgt := 32) hx hb dX4_include_18 (by decide) (fun c18 => ?_) (fun c18 => ?_)
    · skip
      refine lv_ldc (v := (-1000000003 : Int32)) hx hb hown (hts (.constant RX4 148 (-1000000003)) (List.mem_of_getElem? (i := 4) rfl)) dX4_include_32 ?_
      exact W.iret (v := (-1000000003 : Int32)) hx hb hr (fun t ht hW => ⟨⟨(-1000000003 : Int32), (x, wn, wa, w0, w1, rd, wr, z, jj, lt), rfl, ⟨_, _, _, _, _, _, _, _, _, _, rfl, ⟨nv, nl, hnv, by omega, hnl, by omega⟩, ⟨nva, nla, hnva, by omega, hnla, by omega⟩, ⟨nv0, nl0, hnv0, by omega, hnl0, by omega⟩, ⟨nv1, nl1, hnv1, by omega, hnl1, by omega⟩, rfl, rfl, rfl, rfl⟩, show PP G (xw G h x wn wa w0 w1 rd wr z jj lt) t.heap by rw [ht]; exact hP⟩, hS.F ht⟩) hS.2.2 dX4_include_34
    · skip
      refine lv_aload_n hx hb dX4_include_21 rfl (lv_at hl 0 rfl) ?_
      refine cRi (w := xw G h x wn wa w0 w1 rd wr z jj lt) (As := []) (rest := []) ⟨hx, hb, hml, hown, hts⟩ (mt_X4_openChanges l G h x wn wa w0 w1 rd wr z jj lt nv nl (hnv) (hnl) (by first | assumption | omega) (by first | assumption | omega)) (cwV 0 hts gX4_include_X4_openChanges rfl rfl rfl (by decide +kernel) ⟨Nat.le_of_ble_eq_true rfl, Nat.le_of_ble_eq_true rfl⟩) hK hN hP 0 4 rfl rfl rfl hl.1 rfl (Nat.le_of_ble_eq_true rfl) ⟨Nat.zero_le _, Nat.zero_le _⟩ dX4_include_22 (fun r22 hw22 => ?_)
      refine lv_iload_n hx hb dX4_include_25 rfl (lv_at hl 1 rfl) ?_
      refine cSi (As := [.int r22, .int a]) (rest := []) ⟨hx, hb, hml, hown, hts⟩ (mt_X3_holds l r22 a) (va_cwS 2 hts gX4_include_X3_holds rfl rfl rfl (by decide +kernel) ⟨Nat.le_of_ble_eq_true rfl, Nat.le_of_ble_eq_true rfl⟩) rfl hl.1 rfl (Nat.le_of_ble_eq_true rfl) ⟨Nat.zero_le _, Nat.zero_le _⟩ dX4_include_26 (fun r26 hw26 => ?_)
      rcases hw26 with rfl | rfl
      · skip
        refine lv_if_eq (tgt := 35) hx hb dX4_include_29 (by decide) (fun c9 => absurd c9 (by decide)) (fun _ => ?_)
        refine lv_ldc (v := (-1000000003 : Int32)) hx hb hown (hts (.constant RX4 148 (-1000000003)) (List.mem_of_getElem? (i := 4) rfl)) dX4_include_32 ?_
        exact W.iret (v := (-1000000003 : Int32)) hx hb hr (fun t ht hW => ⟨⟨(-1000000003 : Int32), (x, wn, wa, w0, w1, rd, wr, z, jj, lt), rfl, ⟨_, _, _, _, _, _, _, _, _, _, rfl, ⟨nv, nl, hnv, by omega, hnl, by omega⟩, ⟨nva, nla, hnva, by omega, hnla, by omega⟩, ⟨nv0, nl0, hnv0, by omega, hnl0, by omega⟩, ⟨nv1, nl1, hnv1, by omega, hnl1, by omega⟩, rfl, rfl, rfl, rfl⟩, show PP G (xw G h x wn wa w0 w1 rd wr z jj lt) t.heap by rw [ht]; exact hP⟩, hS.F ht⟩) hS.2.2 dX4_include_34
      · skip
        refine lv_if_eq (tgt := 35) hx hb dX4_include_29 (by decide) (fun _ => ?_) (fun c9 => absurd (by decide) c9)
        refine lv_aload_n hx hb dX4_include_35 rfl (lv_at hl 0 rfl) ?_
        refine va_get (D := gD G) (ci := 4) (v := .ref (h 10)) (C := RX4) (T := TX4) (N := 9) hx hb hts hiX4 hown hK hP 0 (xp_0 _ _ _ _ _ _ _ _ _ _ _ _) rfl 0 (by decide) k10 (fun _ h9 => h9) rfl dX4_include_36 ?_
        refine lv_iload_n hx hb dX4_include_39 rfl (lv_at hl 1 rfl) ?_
        refine cWv (As := [.int a]) (rest := []) (S := oS) (wa := xw G h x wn wa w0 w1 rd wr z jj lt) (wc := wv G (fun k => h (10 + k)) wn) (w1 := fun v => wv G (fun k => h (10 + k)) v) (wa' := fun v => xw G h x v wa w0 w1 rd wr z jj lt) ⟨hx, hb, hml, hown, hts⟩ (mt_X3_includeInNext l G (fun k => h (10 + k)) _ wn nv a (hnv) (by first | assumption | omega)) (cwV 1 hts gX4_include_X3_includeInNext rfl rfl rfl (by decide +kernel) ⟨Nat.le_of_ble_eq_true rfl, Nat.le_of_ble_eq_true rfl⟩) hK hN hP hD hS hA [3, 4, 5, 6, 7, 8, 9, 10] (xc_now _ _ _ _ _ _ _ _ _ _ _ _) (by decide) (xf_now _ _ _ _ _ _ _ _ _ _ _ _) (fun _ => rfl) (fun v => xo_now _ _ _ _ _ _ _ _ _ _ _ _ v) (fun v => xm_now _ _ _ _ _ _ _ _ _ _ _ _ v) 0 3 rfl rfl rfl hl.1 rfl (Nat.le_of_ble_eq_true rfl) ⟨Nat.zero_le _, Nat.zero_le _⟩ dX4_include_40 (fun u40 H locs hw40 hP hD hS => ?_)
        have hR40 := hw40
        have hP : PP G (xw G h x u40 wa w0 w1 rd wr z jj lt) H := hP
        have hD : va_D A (xw G h x u40 wa w0 w1 rd wr z jj lt) := hD
        refine lv_aload_n hx hb dX4_include_43 rfl (lv_at hl 0 rfl) ?_
        refine cRi (w := xw G h x u40 wa w0 w1 rd wr z jj lt) (As := []) (rest := []) ⟨hx, hb, hml, hown, hts⟩ (mt_X4_openLines l G h x u40 wa w0 w1 rd wr z jj lt nv nl ((hR40.1 0 (by decide)).trans (hnv)) ((hR40.1 5 (by decide)).trans (hnl)) (by first | assumption | omega) (by first | assumption | omega)) (cwV 0 hts gX4_include_X4_openLines rfl rfl rfl (by decide +kernel) ⟨Nat.le_of_ble_eq_true rfl, Nat.le_of_ble_eq_true rfl⟩) hK hN hP 0 4 rfl rfl rfl hl.1 rfl (Nat.le_of_ble_eq_true rfl) ⟨Nat.zero_le _, Nat.zero_le _⟩ dX4_include_44 (fun r44 hw44 => ?_)
        obtain ⟨n44, hn44, rfl⟩ := hw44
        exact W.iret (v := nI (n44)) hx hb hr (fun t ht hW => ⟨⟨nI (n44), (x, u40, wa, w0, w1, rd, wr, z, jj, lt), rfl, ⟨_, _, _, _, _, _, _, _, _, _, rfl, ⟨nv, nl, (hR40.1 0 (by decide)).trans (hnv), by omega, (hR40.1 5 (by decide)).trans (hnl), by omega⟩, ⟨nva, nla, hnva, by omega, hnla, by omega⟩, ⟨nv0, nl0, hnv0, by omega, hnl0, by omega⟩, ⟨nv1, nl1, hnv1, by omega, hnl1, by omega⟩, rfl, rfl, rfl, rfl⟩, show PP G (xw G h x u40 wa w0 w1 rd wr z jj lt) t.heap by rw [ht]; exact hP⟩, hS.F ht⟩) hS.2.2 dX4_include_47
  · skip
    refine lv_if_ne (tgt := 14) hx hb dX4_include_8 (by decide) (fun c9 => absurd (by decide) c9) (fun _ => ?_)
    refine lv_ldc (v := (-1000000001 : Int32)) hx hb hown (hts (.constant RX4 110 (-1000000001)) (List.mem_of_getElem? (i := 2) rfl)) dX4_include_11 ?_
    exact W.iret (v := (-1000000001 : Int32)) hx hb hr (fun t ht hW => ⟨⟨(-1000000001 : Int32), (x, wn, wa, w0, w1, rd, wr, z, jj, lt), rfl, ⟨_, _, _, _, _, _, _, _, _, _, rfl, ⟨nv, nl, hnv, by omega, hnl, by omega⟩, ⟨nva, nla, hnva, by omega, hnla, by omega⟩, ⟨nv0, nl0, hnv0, by omega, hnl0, by omega⟩, ⟨nv1, nl1, hnv1, by omega, hnl1, by omega⟩, rfl, rfl, rfl, rfl⟩, show PP G (xw G h x wn wa w0 w1 rd wr z jj lt) t.heap by rw [ht]; exact hP⟩, hS.F ht⟩) hS.2.2 dX4_include_13
set_option maxHeartbeats 1000000 in
set_option maxRecDepth 100000 in
theorem mt_X4_exclude (l : Launch) (G : gG) (h : Nat → Nat) (sz : Nat) (x : oS) (wn : oS) (wa : oS) (w0 : oS) (w1 : oS) (rd : oS) (wr : oS) (z : oS) (jj : Nat → Nat → Int64) (lt : Int64) (nv : Nat) (nl : Nat) (nva : Nat) (nla : Nat) (nv0 : Nat) (nl0 : Nat) (nv1 : Nat) (nl1 : Nat) (len : Nat) (a : Int32) (hnv : wn.1 0 = nI nv) (hnl : wn.1 5 = nI nl) (hnva : wa.1 0 = nI nva) (hnla : wa.1 5 = nI nla) (hnv0 : w0.1 0 = nI nv0) (hnl0 : w0.1 5 = nI nl0) (hnv1 : w1.1 0 = nI nv1) (hnl1 : w1.1 5 = nI nl1) (hlen : rd.1 1 = nI len) (hnv24 : nv ≤ 24) (hnl120 : nl ≤ 120) (hva24 : nva ≤ 24) (hla120 : nla ≤ 120) (hv024 : nv0 ≤ 24) (hl0120 : nl0 ≤ 120) (hv124 : nv1 ≤ 24) (hl1120 : nl1 ≤ 120) (hl240 : len ≤ 240) (hsz : ∀ j, j < 4 → z.2 1 j = -1 ∨ ∃ q, q ≤ 40 ∧ z.2 1 j = nI q) : Met l yX4_exclude wsX4_exclude ({ frames := 4, cells := 0, slots := 0, locals := 87 }) (preW G (xw G h x wn wa w0 w1 rd wr z jj lt) sz [.ref (h 0), .int a]) (va_Qi (fun (r : Int32) (v : oS × oS × oS × oS × oS × oS × oS × oS × (Nat → Nat → Int64) × Int64) => XQ x rd z v) (fun v t => PP G (xw G h v.1 v.2.1 v.2.2.1 v.2.2.2.1 v.2.2.2.2.1 v.2.2.2.2.2.1 v.2.2.2.2.2.2.1 v.2.2.2.2.2.2.2.1 v.2.2.2.2.2.2.2.2.1 v.2.2.2.2.2.2.2.2.2) t.heap) (va_A (xw G h x wn wa w0 w1 rd wr z jj lt) sz)) 0 0 (va_A (xw G h x wn wa w0 w1 rd wr z jj lt) sz) := by
  refine Met.ofW (cc := cX4_exclude) (maxL := 2) (ret := (some .int)) (by decide) rfl ?_
  intro p e s m args below meth c s₁ B hml hv
  obtain ⟨ha, hsz, hP, hK, hN, hD0⟩ := hv
  subst ha
  have hx := B.exec
  have hb := B.bytes
  have hr := B.returns
  have hts := atoms_spec (ws := wsX4_exclude) B.pre
  have hown : s.vm.findClass RX4 = some m.cls := findClass_of_methodNamed B.named
  have hlocks := B.notSynchronized
  subst hsz
  have hD := hD0.self (sz := s.heap.size)
  generalize hAe : va_A (xw G h x wn wa w0 w1 rd wr z jj lt) s.heap.size = A at hD ⊢
  have hA : ∀ q : Nat, s.heap.size ≤ q → A q := fun q h => by rw [← hAe]; exact Or.inr h
  clear hAe hD0
  have hS : va_S A s.heap s.heap [] := va_S.rf
  have hiX4 : ∀ w ∈ wsX40, w ∈ wsX4_exclude := by decide +kernel
  have k10 := hts (.fieldLink RX4 10 "WovenHistory" "now" "LWovenHistory$Weave;") (List.mem_of_getElem? (i := 1) rfl)
  have k48 := hts (.fieldLink RX4 48 "WovenHistory" "opened" "Z") (List.mem_of_getElem? (i := 3) rfl)
  have hl := lv_entry ([.ref (h 0), .int a]) (n := 2) (Nat.le_of_ble_eq_true rfl)
  rw [lg_entry_eq]
  generalize (lg_sl ([.ref (h 0), .int a]) ++ List.replicate (2 - (lg_sl ([.ref (h 0), .int a])).length) Slot.unset).toArray = ls at hl ⊢
  have hl : lv_has ls 2 [(0, .ref (h 0)), (1, .int a)] := hl
  refine lv_aload_n hx hb dX4_exclude_0 rfl (lv_at hl 0 rfl) ?_
  refine va_get (D := gD G) (ci := 4) (v := .ref (h 10)) (C := RX4) (T := TX4) (N := 9) hx hb hts hiX4 hown hK hP 0 (xp_0 _ _ _ _ _ _ _ _ _ _ _ _) rfl 0 (by decide) k10 (fun _ h9 => h9) rfl dX4_exclude_1 ?_
  refine lv_iload_n hx hb dX4_exclude_4 rfl (lv_at hl 1 rfl) ?_
  refine cRi (w := wv G (fun k => h (10 + k)) wn) (As := [.int a]) (rest := []) ⟨hx, hb, hml, hown, hts⟩ (mt_X3_hasVersion l G (fun k => h (10 + k)) wn nv a (hnv) (by first | assumption | omega)) (cwV 1 hts gX4_exclude_X3_hasVersion rfl rfl rfl (by decide +kernel) ⟨Nat.le_of_ble_eq_true rfl, Nat.le_of_ble_eq_true rfl⟩) hK hN (hP.sub [3, 4, 5, 6, 7, 8, 9, 10] (xf_now _ _ _ _ _ _ _ _ _ _ _ _)) 0 3 rfl rfl rfl hl.1 rfl (Nat.le_of_ble_eq_true rfl) ⟨Nat.zero_le _, Nat.zero_le _⟩ dX4_exclude_5 (fun r5 hw5 => ?_)
  rcases hw5 with ⟨rfl, j5, hj5, ej5⟩ | ⟨rfl, hn5⟩
  · skip
    refine lv_if_ne (tgt := 14) hx hb dX4_exclude_8 (by decide) (fun _ => ?_) (fun c9 => absurd c9 (by decide))
    refine lv_aload_n hx hb dX4_exclude_14 rfl (lv_at hl 0 rfl) ?_
    refine va_get (D := gD G) (ci := 4) (v := .int (x.1 7)) (C := RX4) (T := TX4) (N := 9) hx hb hts hiX4 hown hK hP 0 (xp_0 _ _ _ _ _ _ _ _ _ _ _ _) rfl 7 (by decide) k48 (fun _ h9 => h9) rfl dX4_exclude_15 ?_
    refine lv_if_eq (tgt := 32) hx hb dX4_exclude_18 (by decide) (fun c18 => ?_) (fun c18 => ?_)
    · skip
      refine lv_ldc (v := (-1000000003 : Int32)) hx hb hown (hts (.constant RX4 148 (-1000000003)) (List.mem_of_getElem? (i := 4) rfl)) dX4_exclude_32 ?_
      exact W.iret (v := (-1000000003 : Int32)) hx hb hr (fun t ht hW => ⟨⟨(-1000000003 : Int32), (x, wn, wa, w0, w1, rd, wr, z, jj, lt), rfl, ⟨_, _, _, _, _, _, _, _, _, _, rfl, ⟨nv, nl, hnv, by omega, hnl, by omega⟩, ⟨nva, nla, hnva, by omega, hnla, by omega⟩, ⟨nv0, nl0, hnv0, by omega, hnl0, by omega⟩, ⟨nv1, nl1, hnv1, by omega, hnl1, by omega⟩, rfl, rfl, rfl, rfl⟩, show PP G (xw G h x wn wa w0 w1 rd wr z jj lt) t.heap by rw [ht]; exact hP⟩, hS.F ht⟩) hS.2.2 dX4_exclude_34
    · skip
      refine lv_aload_n hx hb dX4_exclude_21 rfl (lv_at hl 0 rfl) ?_
      refine cRi (w := xw G h x wn wa w0 w1 rd wr z jj lt) (As := []) (rest := []) ⟨hx, hb, hml, hown, hts⟩ (mt_X4_openChanges l G h x wn wa w0 w1 rd wr z jj lt nv nl (hnv) (hnl) (by first | assumption | omega) (by first | assumption | omega)) (cwV 0 hts gX4_exclude_X4_openChanges rfl rfl rfl (by decide +kernel) ⟨Nat.le_of_ble_eq_true rfl, Nat.le_of_ble_eq_true rfl⟩) hK hN hP 0 4 rfl rfl rfl hl.1 rfl (Nat.le_of_ble_eq_true rfl) ⟨Nat.zero_le _, Nat.zero_le _⟩ dX4_exclude_22 (fun r22 hw22 => ?_)
      refine lv_iload_n hx hb dX4_exclude_25 rfl (lv_at hl 1 rfl) ?_
      refine cSi (As := [.int r22, .int a]) (rest := []) ⟨hx, hb, hml, hown, hts⟩ (mt_X3_holds l r22 a) (va_cwS 2 hts gX4_exclude_X3_holds rfl rfl rfl (by decide +kernel) ⟨Nat.le_of_ble_eq_true rfl, Nat.le_of_ble_eq_true rfl⟩) rfl hl.1 rfl (Nat.le_of_ble_eq_true rfl) ⟨Nat.zero_le _, Nat.zero_le _⟩ dX4_exclude_26 (fun r26 hw26 => ?_)
      rcases hw26 with rfl | rfl
      · skip
        refine lv_if_ne (tgt := 35) hx hb dX4_exclude_29 (by decide) (fun _ => ?_) (fun c9 => absurd c9 (by decide))
        refine lv_aload_n hx hb dX4_exclude_35 rfl (lv_at hl 0 rfl) ?_
        refine va_get (D := gD G) (ci := 4) (v := .ref (h 10)) (C := RX4) (T := TX4) (N := 9) hx hb hts hiX4 hown hK hP 0 (xp_0 _ _ _ _ _ _ _ _ _ _ _ _) rfl 0 (by decide) k10 (fun _ h9 => h9) rfl dX4_exclude_36 ?_
        refine lv_iload_n hx hb dX4_exclude_39 rfl (lv_at hl 1 rfl) ?_
        refine cWv (As := [.int a]) (rest := []) (S := oS) (wa := xw G h x wn wa w0 w1 rd wr z jj lt) (wc := wv G (fun k => h (10 + k)) wn) (w1 := fun v => wv G (fun k => h (10 + k)) v) (wa' := fun v => xw G h x v wa w0 w1 rd wr z jj lt) ⟨hx, hb, hml, hown, hts⟩ (mt_X3_excludeFromNext l G (fun k => h (10 + k)) _ wn nv a (hnv) (by first | assumption | omega)) (cwV 1 hts gX4_exclude_X3_excludeFromNext rfl rfl rfl (by decide +kernel) ⟨Nat.le_of_ble_eq_true rfl, Nat.le_of_ble_eq_true rfl⟩) hK hN hP hD hS hA [3, 4, 5, 6, 7, 8, 9, 10] (xc_now _ _ _ _ _ _ _ _ _ _ _ _) (by decide) (xf_now _ _ _ _ _ _ _ _ _ _ _ _) (fun _ => rfl) (fun v => xo_now _ _ _ _ _ _ _ _ _ _ _ _ v) (fun v => xm_now _ _ _ _ _ _ _ _ _ _ _ _ v) 0 3 rfl rfl rfl hl.1 rfl (Nat.le_of_ble_eq_true rfl) ⟨Nat.zero_le _, Nat.zero_le _⟩ dX4_exclude_40 (fun u40 H locs hw40 hP hD hS => ?_)
        have hR40 := hw40
        have hP : PP G (xw G h x u40 wa w0 w1 rd wr z jj lt) H := hP
        have hD : va_D A (xw G h x u40 wa w0 w1 rd wr z jj lt) := hD
        refine lv_aload_n hx hb dX4_exclude_43 rfl (lv_at hl 0 rfl) ?_
        refine cRi (w := xw G h x u40 wa w0 w1 rd wr z jj lt) (As := []) (rest := []) ⟨hx, hb, hml, hown, hts⟩ (mt_X4_openLines l G h x u40 wa w0 w1 rd wr z jj lt nv nl ((hR40.1 0 (by decide)).trans (hnv)) ((hR40.1 5 (by decide)).trans (hnl)) (by first | assumption | omega) (by first | assumption | omega)) (cwV 0 hts gX4_exclude_X4_openLines rfl rfl rfl (by decide +kernel) ⟨Nat.le_of_ble_eq_true rfl, Nat.le_of_ble_eq_true rfl⟩) hK hN hP 0 4 rfl rfl rfl hl.1 rfl (Nat.le_of_ble_eq_true rfl) ⟨Nat.zero_le _, Nat.zero_le _⟩ dX4_exclude_44 (fun r44 hw44 => ?_)
        obtain ⟨n44, hn44, rfl⟩ := hw44
        exact W.iret (v := nI (n44)) hx hb hr (fun t ht hW => ⟨⟨nI (n44), (x, u40, wa, w0, w1, rd, wr, z, jj, lt), rfl, ⟨_, _, _, _, _, _, _, _, _, _, rfl, ⟨nv, nl, (hR40.1 0 (by decide)).trans (hnv), by omega, (hR40.1 5 (by decide)).trans (hnl), by omega⟩, ⟨nva, nla, hnva, by omega, hnla, by omega⟩, ⟨nv0, nl0, hnv0, by omega, hnl0, by omega⟩, ⟨nv1, nl1, hnv1, by omega, hnl1, by omega⟩, rfl, rfl, rfl, rfl⟩, show PP G (xw G h x u40 wa w0 w1 rd wr z jj lt) t.heap by rw [ht]; exact hP⟩, hS.F ht⟩) hS.2.2 dX4_exclude_47
      · skip
        refine lv_if_ne (tgt := 35) hx hb dX4_exclude_29 (by decide) (fun c9 => absurd (by decide) c9) (fun _ => ?_)
        refine lv_ldc (v := (-1000000003 : Int32)) hx hb hown (hts (.constant RX4 148 (-1000000003)) (List.mem_of_getElem? (i := 4) rfl)) dX4_exclude_32 ?_
        exact W.iret (v := (-1000000003 : Int32)) hx hb hr (fun t ht hW => ⟨⟨(-1000000003 : Int32), (x, wn, wa, w0, w1, rd, wr, z, jj, lt), rfl, ⟨_, _, _, _, _, _, _, _, _, _, rfl, ⟨nv, nl, hnv, by omega, hnl, by omega⟩, ⟨nva, nla, hnva, by omega, hnla, by omega⟩, ⟨nv0, nl0, hnv0, by omega, hnl0, by omega⟩, ⟨nv1, nl1, hnv1, by omega, hnl1, by omega⟩, rfl, rfl, rfl, rfl⟩, show PP G (xw G h x wn wa w0 w1 rd wr z jj lt) t.heap by rw [ht]; exact hP⟩, hS.F ht⟩) hS.2.2 dX4_exclude_34
  · skip
    refine lv_if_ne (tgt := 14) hx hb dX4_exclude_8 (by decide) (fun c9 => absurd (by decide) c9) (fun _ => ?_)
    refine lv_ldc (v := (-1000000001 : Int32)) hx hb hown (hts (.constant RX4 110 (-1000000001)) (List.mem_of_getElem? (i := 2) rfl)) dX4_exclude_11 ?_
    exact W.iret (v := (-1000000001 : Int32)) hx hb hr (fun t ht hW => ⟨⟨(-1000000001 : Int32), (x, wn, wa, w0, w1, rd, wr, z, jj, lt), rfl, ⟨_, _, _, _, _, _, _, _, _, _, rfl, ⟨nv, nl, hnv, by omega, hnl, by omega⟩, ⟨nva, nla, hnva, by omega, hnla, by omega⟩, ⟨nv0, nl0, hnv0, by omega, hnl0, by omega⟩, ⟨nv1, nl1, hnv1, by omega, hnl1, by omega⟩, rfl, rfl, rfl, rfl⟩, show PP G (xw G h x wn wa w0 w1 rd wr z jj lt) t.heap by rw [ht]; exact hP⟩, hS.F ht⟩) hS.2.2 dX4_exclude_13
set_option maxHeartbeats 1000000 in
set_option maxRecDepth 100000 in
theorem mt_X4_put (l : Launch) (G : gG) (h : Nat → Nat) (sz : Nat) (x : oS) (wn : oS) (wa : oS) (w0 : oS) (w1 : oS) (rd : oS) (wr : oS) (z : oS) (jj : Nat → Nat → Int64) (lt : Int64) (nv : Nat) (nl : Nat) (nva : Nat) (nla : Nat) (nv0 : Nat) (nl0 : Nat) (nv1 : Nat) (nl1 : Nat) (len : Nat) (a : Int32) (b : Int32) (hnv : wn.1 0 = nI nv) (hnl : wn.1 5 = nI nl) (hnva : wa.1 0 = nI nva) (hnla : wa.1 5 = nI nla) (hnv0 : w0.1 0 = nI nv0) (hnl0 : w0.1 5 = nI nl0) (hnv1 : w1.1 0 = nI nv1) (hnl1 : w1.1 5 = nI nl1) (hlen : rd.1 1 = nI len) (hnv24 : nv ≤ 24) (hnl120 : nl ≤ 120) (hva24 : nva ≤ 24) (hla120 : nla ≤ 120) (hv024 : nv0 ≤ 24) (hl0120 : nl0 ≤ 120) (hv124 : nv1 ≤ 24) (hl1120 : nl1 ≤ 120) (hl240 : len ≤ 240) (hsz : ∀ j, j < 4 → z.2 1 j = -1 ∨ ∃ q, q ≤ 40 ∧ z.2 1 j = nI q) : Met l yX4_put wsX4_put ({ frames := 4, cells := 0, slots := 0, locals := 96 }) (preW G (xw G h x wn wa w0 w1 rd wr z jj lt) sz [.ref (h 0), .int a, .int b]) (va_Qi (fun (r : Int32) (v : oS × oS × oS × oS × oS × oS × oS × oS × (Nat → Nat → Int64) × Int64) => XQ x rd z v) (fun v t => PP G (xw G h v.1 v.2.1 v.2.2.1 v.2.2.2.1 v.2.2.2.2.1 v.2.2.2.2.2.1 v.2.2.2.2.2.2.1 v.2.2.2.2.2.2.2.1 v.2.2.2.2.2.2.2.2.1 v.2.2.2.2.2.2.2.2.2) t.heap) (va_A (xw G h x wn wa w0 w1 rd wr z jj lt) sz)) 0 0 (va_A (xw G h x wn wa w0 w1 rd wr z jj lt) sz) := by
  refine Met.ofW (cc := cX4_put) (maxL := 3) (ret := (some .int)) (by decide) rfl ?_
  intro p e s m args below meth c s₁ B hml hv
  obtain ⟨ha, hsz, hP, hK, hN, hD0⟩ := hv
  subst ha
  have hx := B.exec
  have hb := B.bytes
  have hr := B.returns
  have hts := atoms_spec (ws := wsX4_put) B.pre
  have hown : s.vm.findClass RX4 = some m.cls := findClass_of_methodNamed B.named
  have hlocks := B.notSynchronized
  subst hsz
  have hD := hD0.self (sz := s.heap.size)
  generalize hAe : va_A (xw G h x wn wa w0 w1 rd wr z jj lt) s.heap.size = A at hD ⊢
  have hA : ∀ q : Nat, s.heap.size ≤ q → A q := fun q h => by rw [← hAe]; exact Or.inr h
  clear hAe hD0
  have hS : va_S A s.heap s.heap [] := va_S.rf
  have hiX4 : ∀ w ∈ wsX40, w ∈ wsX4_put := by decide +kernel
  have k48 := hts (.fieldLink RX4 48 "WovenHistory" "opened" "Z") (List.mem_of_getElem? (i := 2) rfl)
  have k10 := hts (.fieldLink RX4 10 "WovenHistory" "now" "LWovenHistory$Weave;") (List.mem_of_getElem? (i := 4) rfl)
  have hiX3 : ∀ w ∈ wsX30, w ∈ wsX4_put := by decide +kernel
  have k85 : (Cond.fieldLinkNest "WovenHistory" 85 "WovenHistory$Weave" "lines" "I" "WovenHistory").before _ s = true := va_Nw.use (A := ([.ref (h 0), .int a, .int b] : List Value).toArray) rfl (hN.1 ("WovenHistory", 85, "WovenHistory$Weave", "lines", "I") (List.mem_of_getElem? (i := 13) rfl))
  have hl := lv_entry ([.ref (h 0), .int a, .int b]) (n := 3) (Nat.le_of_ble_eq_true rfl)
  rw [lg_entry_eq]
  generalize (lg_sl ([.ref (h 0), .int a, .int b]) ++ List.replicate (3 - (lg_sl ([.ref (h 0), .int a, .int b])).length) Slot.unset).toArray = ls at hl ⊢
  have hl : lv_has ls 3 [(0, .ref (h 0)), (1, .int a), (2, .int b)] := hl
  refine lv_iload_n hx hb dX4_put_0 rfl (lv_at hl 1 rfl) ?_
  refine lv_if_lt (tgt := 11) hx hb dX4_put_1 (by decide) (fun c1 => ?_) (fun c1 => ?_)
  · skip
    refine lv_ldc (v := (-1000000002 : Int32)) hx hb hown (hts (.constant RX4 56 (-1000000002)) (List.mem_of_getElem? (i := 1) rfl)) dX4_put_11 ?_
    exact W.iret (v := (-1000000002 : Int32)) hx hb hr (fun t ht hW => ⟨⟨(-1000000002 : Int32), (x, wn, wa, w0, w1, rd, wr, z, jj, lt), rfl, ⟨_, _, _, _, _, _, _, _, _, _, rfl, ⟨nv, nl, hnv, by omega, hnl, by omega⟩, ⟨nva, nla, hnva, by omega, hnla, by omega⟩, ⟨nv0, nl0, hnv0, by omega, hnl0, by omega⟩, ⟨nv1, nl1, hnv1, by omega, hnl1, by omega⟩, rfl, rfl, rfl, rfl⟩, show PP G (xw G h x wn wa w0 w1 rd wr z jj lt) t.heap by rw [ht]; exact hP⟩, hS.F ht⟩) hS.2.2 dX4_put_13
  · skip
    refine lv_iload_n hx hb dX4_put_4 rfl (lv_at hl 2 rfl) ?_
    refine cSi (As := [.int b]) (rest := []) ⟨hx, hb, hml, hown, hts⟩ (mt_X4_isSign l b) (va_cwS 1 hts gX4_put_X4_isSign rfl rfl rfl (by decide +kernel) ⟨Nat.le_of_ble_eq_true rfl, Nat.le_of_ble_eq_true rfl⟩) rfl hl.1 rfl (Nat.le_of_ble_eq_true rfl) ⟨Nat.zero_le _, Nat.zero_le _⟩ dX4_put_5 (fun r5 hw5 => ?_)
    rcases hw5 with ⟨rfl, hy5⟩ | rfl
    · skip
      refine lv_if_ne (tgt := 14) hx hb dX4_put_8 (by decide) (fun _ => ?_) (fun c9 => absurd c9 (by decide))
      refine lv_aload_n hx hb dX4_put_14 rfl (lv_at hl 0 rfl) ?_
      refine va_get (D := gD G) (ci := 4) (v := .int (x.1 7)) (C := RX4) (T := TX4) (N := 9) hx hb hts hiX4 hown hK hP 0 (xp_0 _ _ _ _ _ _ _ _ _ _ _ _) rfl 7 (by decide) k48 (fun _ h9 => h9) rfl dX4_put_15 ?_
      refine lv_if_eq (tgt := 29) hx hb dX4_put_18 (by decide) (fun c18 => ?_) (fun c18 => ?_)
      · skip
        refine lv_ldc (v := (-1000000003 : Int32)) hx hb hown (hts (.constant RX4 148 (-1000000003)) (List.mem_of_getElem? (i := 3) rfl)) dX4_put_29 ?_
        exact W.iret (v := (-1000000003 : Int32)) hx hb hr (fun t ht hW => ⟨⟨(-1000000003 : Int32), (x, wn, wa, w0, w1, rd, wr, z, jj, lt), rfl, ⟨_, _, _, _, _, _, _, _, _, _, rfl, ⟨nv, nl, hnv, by omega, hnl, by omega⟩, ⟨nva, nla, hnva, by omega, hnla, by omega⟩, ⟨nv0, nl0, hnv0, by omega, hnl0, by omega⟩, ⟨nv1, nl1, hnv1, by omega, hnl1, by omega⟩, rfl, rfl, rfl, rfl⟩, show PP G (xw G h x wn wa w0 w1 rd wr z jj lt) t.heap by rw [ht]; exact hP⟩, hS.F ht⟩) hS.2.2 dX4_put_31
      · skip
        refine lv_iload_n hx hb dX4_put_21 rfl (lv_at hl 1 rfl) ?_
        refine lv_aload_n hx hb dX4_put_22 rfl (lv_at hl 0 rfl) ?_
        refine cRi (w := xw G h x wn wa w0 w1 rd wr z jj lt) (As := []) (rest := [.int a]) ⟨hx, hb, hml, hown, hts⟩ (mt_X4_openLines l G h x wn wa w0 w1 rd wr z jj lt nv nl (hnv) (hnl) (by first | assumption | omega) (by first | assumption | omega)) (cwV 0 hts gX4_put_X4_openLines rfl rfl rfl (by decide +kernel) ⟨Nat.le_of_ble_eq_true rfl, Nat.le_of_ble_eq_true rfl⟩) hK hN hP 0 4 rfl rfl rfl hl.1 rfl (Nat.le_of_ble_eq_true rfl) ⟨Nat.zero_le _, Nat.zero_le _⟩ dX4_put_23 (fun r23 hw23 => ?_)
        obtain ⟨n23, hn23, rfl⟩ := hw23
        refine lv_icmp_le (tgt := 32) hx hb dX4_put_26 (by decide) (fun c26 => ?_) (fun c26 => ?_)
        · skip
          refine lv_aload_n hx hb dX4_put_32 rfl (lv_at hl 0 rfl) ?_
          refine va_get (D := gD G) (ci := 4) (v := .ref (h 10)) (C := RX4) (T := TX4) (N := 9) hx hb hts hiX4 hown hK hP 0 (xp_0 _ _ _ _ _ _ _ _ _ _ _ _) rfl 0 (by decide) k10 (fun _ h9 => h9) rfl dX4_put_33 ?_
          refine va_getN (D := gD G) (ci := 3) (v := .int (wn.1 5)) (C := RX3) (T := TX3) (N := 9) hx hb hts hiX3 hown hK hP 3 (xp_3 _ _ _ _ _ _ _ _ _ _ _ _) rfl 5 (by decide) k85 (fun _ h9 => h9) rfl dX4_put_36 ?_
          refine topE hnl ?_
          refine lv_bipush (v := nI 120) hx hb dX4_put_39 (by decide) ?_
          refine lv_icmp_lt (tgt := 47) hx hb dX4_put_41 (by decide) (fun c41 => ?_) (fun c41 => ?_)
          · skip
            have n41 : nl < 120 := (nI_ltI (a := nl) (b := 120) (by omega) (by omega)).mp c41
            refine lv_aload_n hx hb dX4_put_47 rfl (lv_at hl 0 rfl) ?_
            refine va_get (D := gD G) (ci := 4) (v := .ref (h 10)) (C := RX4) (T := TX4) (N := 9) hx hb hts hiX4 hown hK hP 0 (xp_0 _ _ _ _ _ _ _ _ _ _ _ _) rfl 0 (by decide) k10 (fun _ h9 => h9) rfl dX4_put_48 ?_
            refine lv_iload_n hx hb dX4_put_51 rfl (lv_at hl 1 rfl) ?_
            refine lv_iload_n hx hb dX4_put_52 rfl (lv_at hl 2 rfl) ?_
            refine cWi (As := [.int a, .int b]) (rest := []) (S := oS) (wa := xw G h x wn wa w0 w1 rd wr z jj lt) (wc := wv G (fun k => h (10 + k)) wn) (w1 := fun v => wv G (fun k => h (10 + k)) v) (wa' := fun v => xw G h x v wa w0 w1 rd wr z jj lt) ⟨hx, hb, hml, hown, hts⟩ (mt_X3_putByNext l G (fun k => h (10 + k)) _ wn nv nl a b (hnv) (hnl) (by first | assumption | omega) (by first | assumption | omega)) (cwV 2 hts gX4_put_X3_putByNext rfl rfl rfl (by decide +kernel) ⟨Nat.le_of_ble_eq_true rfl, Nat.le_of_ble_eq_true rfl⟩) hK hN hP hD hS hA [3, 4, 5, 6, 7, 8, 9, 10] (xc_now _ _ _ _ _ _ _ _ _ _ _ _) (by decide) (xf_now _ _ _ _ _ _ _ _ _ _ _ _) (fun _ => rfl) (fun v => xo_now _ _ _ _ _ _ _ _ _ _ _ _ v) (fun v => xm_now _ _ _ _ _ _ _ _ _ _ _ _ v) 0 3 rfl rfl rfl hl.1 rfl (Nat.le_of_ble_eq_true rfl) ⟨Nat.zero_le _, Nat.zero_le _⟩ dX4_put_53 (fun r53 u53 H locs hw53 hP hD hS => ?_)
            obtain ⟨hR53, n53, hn53, en53⟩ := hw53
            have hP : PP G (xw G h x u53 wa w0 w1 rd wr z jj lt) H := hP
            have hD : va_D A (xw G h x u53 wa w0 w1 rd wr z jj lt) := hD
            exact W.iret (v := r53) hx hb hr (fun t ht hW => ⟨⟨r53, (x, u53, wa, w0, w1, rd, wr, z, jj, lt), rfl, ⟨_, _, _, _, _, _, _, _, _, _, rfl, ⟨nv, n53, (hR53.1 0 (by decide)).trans (hnv), by omega, en53, by omega⟩, ⟨nva, nla, hnva, by omega, hnla, by omega⟩, ⟨nv0, nl0, hnv0, by omega, hnl0, by omega⟩, ⟨nv1, nl1, hnv1, by omega, hnl1, by omega⟩, rfl, rfl, rfl, rfl⟩, show PP G (xw G h x u53 wa w0 w1 rd wr z jj lt) t.heap by rw [ht]; exact hP⟩, hS.F ht⟩) hS.2.2 dX4_put_56
          · skip
            have n41 : ¬ (nl < 120) := fun q9 => c41 ((nI_ltI (a := nl) (b := 120) (by omega) (by omega)).mpr q9)
            refine lv_ldc (v := (-1000000004 : Int32)) hx hb hown (hts (.constant RX4 64 (-1000000004)) (List.mem_of_getElem? (i := 5) rfl)) dX4_put_44 ?_
            exact W.iret (v := (-1000000004 : Int32)) hx hb hr (fun t ht hW => ⟨⟨(-1000000004 : Int32), (x, wn, wa, w0, w1, rd, wr, z, jj, lt), rfl, ⟨_, _, _, _, _, _, _, _, _, _, rfl, ⟨nv, nl, hnv, by omega, hnl, by omega⟩, ⟨nva, nla, hnva, by omega, hnla, by omega⟩, ⟨nv0, nl0, hnv0, by omega, hnl0, by omega⟩, ⟨nv1, nl1, hnv1, by omega, hnl1, by omega⟩, rfl, rfl, rfl, rfl⟩, show PP G (xw G h x wn wa w0 w1 rd wr z jj lt) t.heap by rw [ht]; exact hP⟩, hS.F ht⟩) hS.2.2 dX4_put_46
        · skip
          refine lv_ldc (v := (-1000000003 : Int32)) hx hb hown (hts (.constant RX4 148 (-1000000003)) (List.mem_of_getElem? (i := 3) rfl)) dX4_put_29 ?_
          exact W.iret (v := (-1000000003 : Int32)) hx hb hr (fun t ht hW => ⟨⟨(-1000000003 : Int32), (x, wn, wa, w0, w1, rd, wr, z, jj, lt), rfl, ⟨_, _, _, _, _, _, _, _, _, _, rfl, ⟨nv, nl, hnv, by omega, hnl, by omega⟩, ⟨nva, nla, hnva, by omega, hnla, by omega⟩, ⟨nv0, nl0, hnv0, by omega, hnl0, by omega⟩, ⟨nv1, nl1, hnv1, by omega, hnl1, by omega⟩, rfl, rfl, rfl, rfl⟩, show PP G (xw G h x wn wa w0 w1 rd wr z jj lt) t.heap by rw [ht]; exact hP⟩, hS.F ht⟩) hS.2.2 dX4_put_31
    · skip
      refine lv_if_ne (tgt := 14) hx hb dX4_put_8 (by decide) (fun c9 => absurd (by decide) c9) (fun _ => ?_)
      refine lv_ldc (v := (-1000000002 : Int32)) hx hb hown (hts (.constant RX4 56 (-1000000002)) (List.mem_of_getElem? (i := 1) rfl)) dX4_put_11 ?_
      exact W.iret (v := (-1000000002 : Int32)) hx hb hr (fun t ht hW => ⟨⟨(-1000000002 : Int32), (x, wn, wa, w0, w1, rd, wr, z, jj, lt), rfl, ⟨_, _, _, _, _, _, _, _, _, _, rfl, ⟨nv, nl, hnv, by omega, hnl, by omega⟩, ⟨nva, nla, hnva, by omega, hnla, by omega⟩, ⟨nv0, nl0, hnv0, by omega, hnl0, by omega⟩, ⟨nv1, nl1, hnv1, by omega, hnl1, by omega⟩, rfl, rfl, rfl, rfl⟩, show PP G (xw G h x wn wa w0 w1 rd wr z jj lt) t.heap by rw [ht]; exact hP⟩, hS.F ht⟩) hS.2.2 dX4_put_13
set_option maxHeartbeats 1000000 in
set_option maxRecDepth 100000 in
theorem mt_X4_take (l : Launch) (G : gG) (h : Nat → Nat) (sz : Nat) (x : oS) (wn : oS) (wa : oS) (w0 : oS) (w1 : oS) (rd : oS) (wr : oS) (z : oS) (jj : Nat → Nat → Int64) (lt : Int64) (nv : Nat) (nl : Nat) (nva : Nat) (nla : Nat) (nv0 : Nat) (nl0 : Nat) (nv1 : Nat) (nl1 : Nat) (len : Nat) (a : Int32) (hnv : wn.1 0 = nI nv) (hnl : wn.1 5 = nI nl) (hnva : wa.1 0 = nI nva) (hnla : wa.1 5 = nI nla) (hnv0 : w0.1 0 = nI nv0) (hnl0 : w0.1 5 = nI nl0) (hnv1 : w1.1 0 = nI nv1) (hnl1 : w1.1 5 = nI nl1) (hlen : rd.1 1 = nI len) (hnv24 : nv ≤ 24) (hnl120 : nl ≤ 120) (hva24 : nva ≤ 24) (hla120 : nla ≤ 120) (hv024 : nv0 ≤ 24) (hl0120 : nl0 ≤ 120) (hv124 : nv1 ≤ 24) (hl1120 : nl1 ≤ 120) (hl240 : len ≤ 240) (hsz : ∀ j, j < 4 → z.2 1 j = -1 ∨ ∃ q, q ≤ 40 ∧ z.2 1 j = nI q) : Met l yX4_take wsX4_take ({ frames := 4, cells := 0, slots := 0, locals := 93 }) (preW G (xw G h x wn wa w0 w1 rd wr z jj lt) sz [.ref (h 0), .int a]) (va_Qi (fun (r : Int32) (v : oS × oS × oS × oS × oS × oS × oS × oS × (Nat → Nat → Int64) × Int64) => XQ x rd z v) (fun v t => PP G (xw G h v.1 v.2.1 v.2.2.1 v.2.2.2.1 v.2.2.2.2.1 v.2.2.2.2.2.1 v.2.2.2.2.2.2.1 v.2.2.2.2.2.2.2.1 v.2.2.2.2.2.2.2.2.1 v.2.2.2.2.2.2.2.2.2) t.heap) (va_A (xw G h x wn wa w0 w1 rd wr z jj lt) sz)) 0 0 (va_A (xw G h x wn wa w0 w1 rd wr z jj lt) sz) := by
  refine Met.ofW (cc := cX4_take) (maxL := 2) (ret := (some .int)) (by decide) rfl ?_
  intro p e s m args below meth c s₁ B hml hv
  obtain ⟨ha, hsz, hP, hK, hN, hD0⟩ := hv
  subst ha
  have hx := B.exec
  have hb := B.bytes
  have hr := B.returns
  have hts := atoms_spec (ws := wsX4_take) B.pre
  have hown : s.vm.findClass RX4 = some m.cls := findClass_of_methodNamed B.named
  have hlocks := B.notSynchronized
  subst hsz
  have hD := hD0.self (sz := s.heap.size)
  generalize hAe : va_A (xw G h x wn wa w0 w1 rd wr z jj lt) s.heap.size = A at hD ⊢
  have hA : ∀ q : Nat, s.heap.size ≤ q → A q := fun q h => by rw [← hAe]; exact Or.inr h
  clear hAe hD0
  have hS : va_S A s.heap s.heap [] := va_S.rf
  have hiX4 : ∀ w ∈ wsX40, w ∈ wsX4_take := by decide +kernel
  have k48 := hts (.fieldLink RX4 48 "WovenHistory" "opened" "Z") (List.mem_of_getElem? (i := 2) rfl)
  have k10 := hts (.fieldLink RX4 10 "WovenHistory" "now" "LWovenHistory$Weave;") (List.mem_of_getElem? (i := 4) rfl)
  have hl := lv_entry ([.ref (h 0), .int a]) (n := 2) (Nat.le_of_ble_eq_true rfl)
  rw [lg_entry_eq]
  generalize (lg_sl ([.ref (h 0), .int a]) ++ List.replicate (2 - (lg_sl ([.ref (h 0), .int a])).length) Slot.unset).toArray = ls at hl ⊢
  have hl : lv_has ls 2 [(0, .ref (h 0)), (1, .int a)] := hl
  refine lv_iload_n hx hb dX4_take_0 rfl (lv_at hl 1 rfl) ?_
  refine lv_if_ge (tgt := 7) hx hb dX4_take_1 (by decide) (fun c1 => ?_) (fun c1 => ?_)
  · skip
    refine lv_aload_n hx hb dX4_take_7 rfl (lv_at hl 0 rfl) ?_
    refine va_get (D := gD G) (ci := 4) (v := .int (x.1 7)) (C := RX4) (T := TX4) (N := 9) hx hb hts hiX4 hown hK hP 0 (xp_0 _ _ _ _ _ _ _ _ _ _ _ _) rfl 7 (by decide) k48 (fun _ h9 => h9) rfl dX4_take_8 ?_
    refine lv_if_eq (tgt := 22) hx hb dX4_take_11 (by decide) (fun c11 => ?_) (fun c11 => ?_)
    · skip
      refine lv_ldc (v := (-1000000003 : Int32)) hx hb hown (hts (.constant RX4 148 (-1000000003)) (List.mem_of_getElem? (i := 3) rfl)) dX4_take_22 ?_
      exact W.iret (v := (-1000000003 : Int32)) hx hb hr (fun t ht hW => ⟨⟨(-1000000003 : Int32), (x, wn, wa, w0, w1, rd, wr, z, jj, lt), rfl, ⟨_, _, _, _, _, _, _, _, _, _, rfl, ⟨nv, nl, hnv, by omega, hnl, by omega⟩, ⟨nva, nla, hnva, by omega, hnla, by omega⟩, ⟨nv0, nl0, hnv0, by omega, hnl0, by omega⟩, ⟨nv1, nl1, hnv1, by omega, hnl1, by omega⟩, rfl, rfl, rfl, rfl⟩, show PP G (xw G h x wn wa w0 w1 rd wr z jj lt) t.heap by rw [ht]; exact hP⟩, hS.F ht⟩) hS.2.2 dX4_take_24
    · skip
      refine lv_iload_n hx hb dX4_take_14 rfl (lv_at hl 1 rfl) ?_
      refine lv_aload_n hx hb dX4_take_15 rfl (lv_at hl 0 rfl) ?_
      refine cRi (w := xw G h x wn wa w0 w1 rd wr z jj lt) (As := []) (rest := [.int a]) ⟨hx, hb, hml, hown, hts⟩ (mt_X4_openLines l G h x wn wa w0 w1 rd wr z jj lt nv nl (hnv) (hnl) (by first | assumption | omega) (by first | assumption | omega)) (cwV 0 hts gX4_take_X4_openLines rfl rfl rfl (by decide +kernel) ⟨Nat.le_of_ble_eq_true rfl, Nat.le_of_ble_eq_true rfl⟩) hK hN hP 0 4 rfl rfl rfl hl.1 rfl (Nat.le_of_ble_eq_true rfl) ⟨Nat.zero_le _, Nat.zero_le _⟩ dX4_take_16 (fun r16 hw16 => ?_)
      obtain ⟨n16, hn16, rfl⟩ := hw16
      refine lv_icmp_lt (tgt := 25) hx hb dX4_take_19 (by decide) (fun c19 => ?_) (fun c19 => ?_)
      · skip
        refine lv_aload_n hx hb dX4_take_25 rfl (lv_at hl 0 rfl) ?_
        refine va_get (D := gD G) (ci := 4) (v := .ref (h 10)) (C := RX4) (T := TX4) (N := 9) hx hb hts hiX4 hown hK hP 0 (xp_0 _ _ _ _ _ _ _ _ _ _ _ _) rfl 0 (by decide) k10 (fun _ h9 => h9) rfl dX4_take_26 ?_
        refine lv_iload_n hx hb dX4_take_29 rfl (lv_at hl 1 rfl) ?_
        refine cWi (As := [.int a]) (rest := []) (S := oS) (wa := xw G h x wn wa w0 w1 rd wr z jj lt) (wc := wv G (fun k => h (10 + k)) wn) (w1 := fun v => wv G (fun k => h (10 + k)) v) (wa' := fun v => xw G h x v wa w0 w1 rd wr z jj lt) ⟨hx, hb, hml, hown, hts⟩ (mt_X3_takeByNext l G (fun k => h (10 + k)) _ wn nv nl a (hnv) (hnl) (by first | assumption | omega) (by first | assumption | omega)) (cwV 1 hts gX4_take_X3_takeByNext rfl rfl rfl (by decide +kernel) ⟨Nat.le_of_ble_eq_true rfl, Nat.le_of_ble_eq_true rfl⟩) hK hN hP hD hS hA [3, 4, 5, 6, 7, 8, 9, 10] (xc_now _ _ _ _ _ _ _ _ _ _ _ _) (by decide) (xf_now _ _ _ _ _ _ _ _ _ _ _ _) (fun _ => rfl) (fun v => xo_now _ _ _ _ _ _ _ _ _ _ _ _ v) (fun v => xm_now _ _ _ _ _ _ _ _ _ _ _ _ v) 0 3 rfl rfl rfl hl.1 rfl (Nat.le_of_ble_eq_true rfl) ⟨Nat.zero_le _, Nat.zero_le _⟩ dX4_take_30 (fun r30 u30 H locs hw30 hP hD hS => ?_)
        obtain ⟨hR30, n30, hn30, en30⟩ := hw30
        have hP : PP G (xw G h x u30 wa w0 w1 rd wr z jj lt) H := hP
        have hD : va_D A (xw G h x u30 wa w0 w1 rd wr z jj lt) := hD
        exact W.iret (v := r30) hx hb hr (fun t ht hW => ⟨⟨r30, (x, u30, wa, w0, w1, rd, wr, z, jj, lt), rfl, ⟨_, _, _, _, _, _, _, _, _, _, rfl, ⟨nv, n30, (hR30.1 0 (by decide)).trans (hnv), by omega, en30, by omega⟩, ⟨nva, nla, hnva, by omega, hnla, by omega⟩, ⟨nv0, nl0, hnv0, by omega, hnl0, by omega⟩, ⟨nv1, nl1, hnv1, by omega, hnl1, by omega⟩, rfl, rfl, rfl, rfl⟩, show PP G (xw G h x u30 wa w0 w1 rd wr z jj lt) t.heap by rw [ht]; exact hP⟩, hS.F ht⟩) hS.2.2 dX4_take_33
      · skip
        refine lv_ldc (v := (-1000000003 : Int32)) hx hb hown (hts (.constant RX4 148 (-1000000003)) (List.mem_of_getElem? (i := 3) rfl)) dX4_take_22 ?_
        exact W.iret (v := (-1000000003 : Int32)) hx hb hr (fun t ht hW => ⟨⟨(-1000000003 : Int32), (x, wn, wa, w0, w1, rd, wr, z, jj, lt), rfl, ⟨_, _, _, _, _, _, _, _, _, _, rfl, ⟨nv, nl, hnv, by omega, hnl, by omega⟩, ⟨nva, nla, hnva, by omega, hnla, by omega⟩, ⟨nv0, nl0, hnv0, by omega, hnl0, by omega⟩, ⟨nv1, nl1, hnv1, by omega, hnl1, by omega⟩, rfl, rfl, rfl, rfl⟩, show PP G (xw G h x wn wa w0 w1 rd wr z jj lt) t.heap by rw [ht]; exact hP⟩, hS.F ht⟩) hS.2.2 dX4_take_24
  · skip
    refine lv_ldc (v := (-1000000002 : Int32)) hx hb hown (hts (.constant RX4 56 (-1000000002)) (List.mem_of_getElem? (i := 1) rfl)) dX4_take_4 ?_
    exact W.iret (v := (-1000000002 : Int32)) hx hb hr (fun t ht hW => ⟨⟨(-1000000002 : Int32), (x, wn, wa, w0, w1, rd, wr, z, jj, lt), rfl, ⟨_, _, _, _, _, _, _, _, _, _, rfl, ⟨nv, nl, hnv, by omega, hnl, by omega⟩, ⟨nva, nla, hnva, by omega, hnla, by omega⟩, ⟨nv0, nl0, hnv0, by omega, hnl0, by omega⟩, ⟨nv1, nl1, hnv1, by omega, hnl1, by omega⟩, rfl, rfl, rfl, rfl⟩, show PP G (xw G h x wn wa w0 w1 rd wr z jj lt) t.heap by rw [ht]; exact hP⟩, hS.F ht⟩) hS.2.2 dX4_take_6
set_option maxHeartbeats 1000000 in
set_option maxRecDepth 100000 in
theorem mt_X4_close (l : Launch) (G : gG) (h : Nat → Nat) (sz : Nat) (x : oS) (wn : oS) (wa : oS) (w0 : oS) (w1 : oS) (rd : oS) (wr : oS) (z : oS) (jj : Nat → Nat → Int64) (lt : Int64) (nv : Nat) (nl : Nat) (nva : Nat) (nla : Nat) (nv0 : Nat) (nl0 : Nat) (nv1 : Nat) (nl1 : Nat) (len : Nat) (hnv : wn.1 0 = nI nv) (hnl : wn.1 5 = nI nl) (hnva : wa.1 0 = nI nva) (hnla : wa.1 5 = nI nla) (hnv0 : w0.1 0 = nI nv0) (hnl0 : w0.1 5 = nI nl0) (hnv1 : w1.1 0 = nI nv1) (hnl1 : w1.1 5 = nI nl1) (hlen : rd.1 1 = nI len) (hnv24 : nv ≤ 24) (hnl120 : nl ≤ 120) (hva24 : nva ≤ 24) (hla120 : nla ≤ 120) (hv024 : nv0 ≤ 24) (hl0120 : nl0 ≤ 120) (hv124 : nv1 ≤ 24) (hl1120 : nl1 ≤ 120) (hl240 : len ≤ 240) (hsz : ∀ j, j < 4 → z.2 1 j = -1 ∨ ∃ q, q ≤ 40 ∧ z.2 1 j = nI q) : Met l yX4_close wsX4_close ({ frames := 1, cells := 0, slots := 0, locals := 20 }) (preW G (xw G h x wn wa w0 w1 rd wr z jj lt) sz [.ref (h 0)]) (va_Qi (fun (r : Int32) (v : oS × oS × oS × oS × oS × oS × oS × oS × (Nat → Nat → Int64) × Int64) => XQ x rd z v) (fun v t => PP G (xw G h v.1 v.2.1 v.2.2.1 v.2.2.2.1 v.2.2.2.2.1 v.2.2.2.2.2.1 v.2.2.2.2.2.2.1 v.2.2.2.2.2.2.2.1 v.2.2.2.2.2.2.2.2.1 v.2.2.2.2.2.2.2.2.2) t.heap) (va_A (xw G h x wn wa w0 w1 rd wr z jj lt) sz)) 0 0 (va_A (xw G h x wn wa w0 w1 rd wr z jj lt) sz) := by
  refine Met.ofW (cc := cX4_close) (maxL := 1) (ret := (some .int)) (by decide) rfl ?_
  intro p e s m args below meth c s₁ B hml hv
  obtain ⟨ha, hsz, hP, hK, hN, hD0⟩ := hv
  subst ha
  have hx := B.exec
  have hb := B.bytes
  have hr := B.returns
  have hts := atoms_spec (ws := wsX4_close) B.pre
  have hown : s.vm.findClass RX4 = some m.cls := findClass_of_methodNamed B.named
  have hlocks := B.notSynchronized
  subst hsz
  have hD := hD0.self (sz := s.heap.size)
  generalize hAe : va_A (xw G h x wn wa w0 w1 rd wr z jj lt) s.heap.size = A at hD ⊢
  have hA : ∀ q : Nat, s.heap.size ≤ q → A q := fun q h => by rw [← hAe]; exact Or.inr h
  clear hAe hD0
  have hS : va_S A s.heap s.heap [] := va_S.rf
  have hiX4 : ∀ w ∈ wsX40, w ∈ wsX4_close := by decide +kernel
  have k48 := hts (.fieldLink RX4 48 "WovenHistory" "opened" "Z") (List.mem_of_getElem? (i := 1) rfl)
  have k10 := hts (.fieldLink RX4 10 "WovenHistory" "now" "LWovenHistory$Weave;") (List.mem_of_getElem? (i := 3) rfl)
  have hiX3 : ∀ w ∈ wsX30, w ∈ wsX4_close := by decide +kernel
  have k82 : (Cond.fieldLinkNest "WovenHistory" 82 "WovenHistory$Weave" "versions" "I" "WovenHistory").before _ s = true := va_Nw.use (A := ([.ref (h 0)] : List Value).toArray) rfl (hN.1 ("WovenHistory", 82, "WovenHistory$Weave", "versions", "I") (List.mem_of_getElem? (i := 12) rfl))
  have hl := lv_entry ([.ref (h 0)]) (n := 1) (Nat.le_of_ble_eq_true rfl)
  rw [lg_entry_eq]
  generalize (lg_sl ([.ref (h 0)]) ++ List.replicate (1 - (lg_sl ([.ref (h 0)])).length) Slot.unset).toArray = ls at hl ⊢
  have hl : lv_has ls 1 [(0, .ref (h 0))] := hl
  refine lv_aload_n hx hb dX4_close_0 rfl (lv_at hl 0 rfl) ?_
  refine va_get (D := gD G) (ci := 4) (v := .int (x.1 7)) (C := RX4) (T := TX4) (N := 9) hx hb hts hiX4 hown hK hP 0 (xp_0 _ _ _ _ _ _ _ _ _ _ _ _) rfl 7 (by decide) k48 (fun _ h9 => h9) rfl dX4_close_1 ?_
  refine lv_if_ne (tgt := 10) hx hb dX4_close_4 (by decide) (fun c4 => ?_) (fun c4 => ?_)
  · skip
    refine lv_aload_n hx hb dX4_close_10 rfl (lv_at hl 0 rfl) ?_
    refine va_get (D := gD G) (ci := 4) (v := .ref (h 10)) (C := RX4) (T := TX4) (N := 9) hx hb hts hiX4 hown hK hP 0 (xp_0 _ _ _ _ _ _ _ _ _ _ _ _) rfl 0 (by decide) k10 (fun _ h9 => h9) rfl dX4_close_11 ?_
    refine cWv (As := []) (rest := []) (S := oS) (wa := xw G h x wn wa w0 w1 rd wr z jj lt) (wc := wv G (fun k => h (10 + k)) wn) (w1 := fun v => wv G (fun k => h (10 + k)) v) (wa' := fun v => xw G h x v wa w0 w1 rd wr z jj lt) ⟨hx, hb, hml, hown, hts⟩ (mt_X3_finishVersion l G (fun k => h (10 + k)) _ wn nv (hnv) (by first | assumption | omega)) (cwV 0 hts gX4_close_X3_finishVersion rfl rfl rfl (by decide +kernel) ⟨Nat.le_of_ble_eq_true rfl, Nat.le_of_ble_eq_true rfl⟩) hK hN hP hD hS hA [3, 4, 5, 6, 7, 8, 9, 10] (xc_now _ _ _ _ _ _ _ _ _ _ _ _) (by decide) (xf_now _ _ _ _ _ _ _ _ _ _ _ _) (fun _ => rfl) (fun v => xo_now _ _ _ _ _ _ _ _ _ _ _ _ v) (fun v => xm_now _ _ _ _ _ _ _ _ _ _ _ _ v) 0 3 rfl rfl rfl hl.1 rfl (Nat.le_of_ble_eq_true rfl) ⟨Nat.zero_le _, Nat.zero_le _⟩ dX4_close_14 (fun u14 H locs hw14 hP hD hS => ?_)
    obtain ⟨n14, hn14, rfl⟩ := hw14
    have hP : PP G (xw G h x (oI wn 0 (nI n14)) wa w0 w1 rd wr z jj lt) H := hP
    have hD : va_D A (xw G h x (oI wn 0 (nI n14)) wa w0 w1 rd wr z jj lt) := hD
    refine lv_aload_n hx hb dX4_close_17 rfl (lv_at hl 0 rfl) ?_
    refine lv_iconst (v := nI 0) hx hb dX4_close_18 (by decide) ?_
    refine va_put (D := gD G) (ci := 4) (v := .int (nI 0)) (ty := .boolean) (C := RX4) (T := TX4) (N := 9) hx hb hts hiX4 tyX4 tyX4_ok nmX4 hown hK hP hD hS 0 (xp_0 _ _ _ _ _ _ _ _ _ _ _ _) rfl 7 (by decide) k48 (fun _ h9 => h9) rfl (by decide +kernel) (rfl) (rfl) (Nat.le_of_ble_eq_true rfl) dX4_close_19 (fun H locs hP hD hS => ?_)
    have hP : PP G (xw G h (oI x 7 (nI 0)) (oI wn 0 (nI n14)) wa w0 w1 rd wr z jj lt) H := hP
    have hD : va_D A (xw G h (oI x 7 (nI 0)) (oI wn 0 (nI n14)) wa w0 w1 rd wr z jj lt) := hD
    refine lv_aload_n hx hb dX4_close_22 rfl (lv_at hl 0 rfl) ?_
    refine va_get (D := gD G) (ci := 4) (v := .ref (h 10)) (C := RX4) (T := TX4) (N := 9) hx hb hts hiX4 hown hK hP 0 (xp_0 _ _ _ _ _ _ _ _ _ _ _ _) rfl 0 (by decide) k10 (fun _ h9 => h9) rfl dX4_close_23 ?_
    refine va_getN (D := gD G) (ci := 3) (v := .int (nI (n14))) (C := RX3) (T := TX3) (N := 9) hx hb hts hiX3 hown hK hP 3 (xp_3 _ _ _ _ _ _ _ _ _ _ _ _) rfl 0 (by decide) k82 (fun _ h9 => h9) rfl dX4_close_26 ?_
    refine lv_iconst (v := nI 1) hx hb dX4_close_29 (by decide) ?_
    refine lv_isub hx hb dX4_close_30 ?_
    exact W.iret (v := (nI (n14)) - (nI 1)) hx hb hr (fun t ht hW => ⟨⟨(nI (n14)) - (nI 1), (oI x 7 (nI 0), oI wn 0 (nI n14), wa, w0, w1, rd, wr, z, jj, lt), rfl, ⟨_, _, _, _, _, _, _, _, _, _, rfl, ⟨n14, nl, rfl, by omega, hnl, by omega⟩, ⟨nva, nla, hnva, by omega, hnla, by omega⟩, ⟨nv0, nl0, hnv0, by omega, hnl0, by omega⟩, ⟨nv1, nl1, hnv1, by omega, hnl1, by omega⟩, rfl, rfl, rfl, rfl⟩, show PP G (xw G h (oI x 7 (nI 0)) (oI wn 0 (nI n14)) wa w0 w1 rd wr z jj lt) t.heap by rw [ht]; exact hP⟩, hS.F ht⟩) hS.2.2 dX4_close_31
  · skip
    refine lv_ldc (v := (-1000000003 : Int32)) hx hb hown (hts (.constant RX4 148 (-1000000003)) (List.mem_of_getElem? (i := 2) rfl)) dX4_close_7 ?_
    exact W.iret (v := (-1000000003 : Int32)) hx hb hr (fun t ht hW => ⟨⟨(-1000000003 : Int32), (x, wn, wa, w0, w1, rd, wr, z, jj, lt), rfl, ⟨_, _, _, _, _, _, _, _, _, _, rfl, ⟨nv, nl, hnv, by omega, hnl, by omega⟩, ⟨nva, nla, hnva, by omega, hnla, by omega⟩, ⟨nv0, nl0, hnv0, by omega, hnl0, by omega⟩, ⟨nv1, nl1, hnv1, by omega, hnl1, by omega⟩, rfl, rfl, rfl, rfl⟩, show PP G (xw G h x wn wa w0 w1 rd wr z jj lt) t.heap by rw [ht]; exact hP⟩, hS.F ht⟩) hS.2.2 dX4_close_9
set_option maxHeartbeats 1000000 in
set_option maxRecDepth 100000 in
theorem mt_X4_leave (l : Launch) (G : gG) (h : Nat → Nat) (sz : Nat) (x : oS) (wn : oS) (wa : oS) (w0 : oS) (w1 : oS) (rd : oS) (wr : oS) (z : oS) (jj : Nat → Nat → Int64) (lt : Int64) (nv : Nat) (nl : Nat) (nva : Nat) (nla : Nat) (nv0 : Nat) (nl0 : Nat) (nv1 : Nat) (nl1 : Nat) (len : Nat) (hnv : wn.1 0 = nI nv) (hnl : wn.1 5 = nI nl) (hnva : wa.1 0 = nI nva) (hnla : wa.1 5 = nI nla) (hnv0 : w0.1 0 = nI nv0) (hnl0 : w0.1 5 = nI nl0) (hnv1 : w1.1 0 = nI nv1) (hnl1 : w1.1 5 = nI nl1) (hlen : rd.1 1 = nI len) (hnv24 : nv ≤ 24) (hnl120 : nl ≤ 120) (hva24 : nva ≤ 24) (hla120 : nla ≤ 120) (hv024 : nv0 ≤ 24) (hl0120 : nl0 ≤ 120) (hv124 : nv1 ≤ 24) (hl1120 : nl1 ≤ 120) (hl240 : len ≤ 240) (hsz : ∀ j, j < 4 → z.2 1 j = -1 ∨ ∃ q, q ≤ 40 ∧ z.2 1 j = nI q) : Met l yX4_leave wsX4_leave ({ frames := 4, cells := 0, slots := 0, locals := 87 }) (preW G (xw G h x wn wa w0 w1 rd wr z jj lt) sz [.ref (h 0)]) (va_Qi (fun (r : Int32) (v : oS × oS × oS × oS × oS × oS × oS × oS × (Nat → Nat → Int64) × Int64) => XQ x rd z v) (fun v t => PP G (xw G h v.1 v.2.1 v.2.2.1 v.2.2.2.1 v.2.2.2.2.1 v.2.2.2.2.2.1 v.2.2.2.2.2.2.1 v.2.2.2.2.2.2.2.1 v.2.2.2.2.2.2.2.2.1 v.2.2.2.2.2.2.2.2.2) t.heap) (va_A (xw G h x wn wa w0 w1 rd wr z jj lt) sz)) 0 0 (va_A (xw G h x wn wa w0 w1 rd wr z jj lt) sz) := by
  refine Met.ofW (cc := cX4_leave) (maxL := 2) (ret := (some .int)) (by decide) rfl ?_
  intro p e s m args below meth c s₁ B hml hv
  obtain ⟨ha, hsz, hP, hK, hN, hD0⟩ := hv
  subst ha
  have hx := B.exec
  have hb := B.bytes
  have hr := B.returns
  have hts := atoms_spec (ws := wsX4_leave) B.pre
  have hown : s.vm.findClass RX4 = some m.cls := findClass_of_methodNamed B.named
  have hlocks := B.notSynchronized
  subst hsz
  have hD := hD0.self (sz := s.heap.size)
  generalize hAe : va_A (xw G h x wn wa w0 w1 rd wr z jj lt) s.heap.size = A at hD ⊢
  have hA : ∀ q : Nat, s.heap.size ≤ q → A q := fun q h => by rw [← hAe]; exact Or.inr h
  clear hAe hD0
  have hS : va_S A s.heap s.heap [] := va_S.rf
  have hiX4 : ∀ w ∈ wsX40, w ∈ wsX4_leave := by decide +kernel
  have k48 := hts (.fieldLink RX4 48 "WovenHistory" "opened" "Z") (List.mem_of_getElem? (i := 1) rfl)
  have k10 := hts (.fieldLink RX4 10 "WovenHistory" "now" "LWovenHistory$Weave;") (List.mem_of_getElem? (i := 3) rfl)
  have k16 := hts (.fieldLink RX4 16 "WovenHistory" "aheadOfOpen" "LWovenHistory$Weave;") (List.mem_of_getElem? (i := 4) rfl)
  have hl := lv_entry ([.ref (h 0)]) (n := 2) (Nat.le_of_ble_eq_true rfl)
  rw [lg_entry_eq]
  generalize (lg_sl ([.ref (h 0)]) ++ List.replicate (2 - (lg_sl ([.ref (h 0)])).length) Slot.unset).toArray = ls at hl ⊢
  have hl : lv_has ls 2 [(0, .ref (h 0))] := hl
  refine lv_aload_n hx hb dX4_leave_0 rfl (lv_at hl 0 rfl) ?_
  refine va_get (D := gD G) (ci := 4) (v := .int (x.1 7)) (C := RX4) (T := TX4) (N := 9) hx hb hts hiX4 hown hK hP 0 (xp_0 _ _ _ _ _ _ _ _ _ _ _ _) rfl 7 (by decide) k48 (fun _ h9 => h9) rfl dX4_leave_1 ?_
  refine lv_if_ne (tgt := 10) hx hb dX4_leave_4 (by decide) (fun c4 => ?_) (fun c4 => ?_)
  · skip
    refine lv_aload_n hx hb dX4_leave_10 rfl (lv_at hl 0 rfl) ?_
    refine cRi (w := xw G h x wn wa w0 w1 rd wr z jj lt) (As := []) (rest := []) ⟨hx, hb, hml, hown, hts⟩ (mt_X4_openLines l G h x wn wa w0 w1 rd wr z jj lt nv nl (hnv) (hnl) (by first | assumption | omega) (by first | assumption | omega)) (cwV 0 hts gX4_leave_X4_openLines rfl rfl rfl (by decide +kernel) ⟨Nat.le_of_ble_eq_true rfl, Nat.le_of_ble_eq_true rfl⟩) hK hN hP 0 4 rfl rfl rfl hl.1 rfl (Nat.le_of_ble_eq_true rfl) ⟨Nat.zero_le _, Nat.zero_le _⟩ dX4_leave_11 (fun r11 hw11 => ?_)
    obtain ⟨n11, hn11, rfl⟩ := hw11
    refine lv_istore_n (lv' := [(1, .int (nI (n11))), (0, .ref (h 0))]) hx hb dX4_leave_14 rfl hl (by decide) rfl (fun ls hl => ?_)
    refine lv_aload_n hx hb dX4_leave_15 rfl (lv_at hl 1 rfl) ?_
    refine va_get (D := gD G) (ci := 4) (v := .ref (h 10)) (C := RX4) (T := TX4) (N := 9) hx hb hts hiX4 hown hK hP 0 (xp_0 _ _ _ _ _ _ _ _ _ _ _ _) rfl 0 (by decide) k10 (fun _ h9 => h9) rfl dX4_leave_16 ?_
    refine lv_aload_n hx hb dX4_leave_19 rfl (lv_at hl 1 rfl) ?_
    refine va_get (D := gD G) (ci := 4) (v := .ref (h 20)) (C := RX4) (T := TX4) (N := 9) hx hb hts hiX4 hown hK hP 0 (xp_0 _ _ _ _ _ _ _ _ _ _ _ _) rfl 1 (by decide) k16 (fun _ h9 => h9) rfl dX4_leave_20 ?_
    refine cWv (As := [.ref (h 20)]) (rest := []) (S := oS × oS) (wa := xw G h x wn wa w0 w1 rd wr z jj lt) (wc := wb G (fun k => h (10 + k)) (fun k => h (20 + k)) wn wa) (w1 := fun v => wb G (fun k => h (10 + k)) (fun k => h (20 + k)) v.1 v.2) (wa' := fun v => xw G h x v.1 v.2 w0 w1 rd wr z jj lt) ⟨hx, hb, hml, hown, hts⟩ (mt_X3_become l G (fun k => h (10 + k)) _ wn wa (fun k => h (20 + k))) (cwV 1 hts gX4_leave_X3_become rfl rfl rfl (by decide +kernel) ⟨Nat.le_of_ble_eq_true rfl, Nat.le_of_ble_eq_true rfl⟩) hK hN hP hD hS hA [3, 4, 5, 6, 7, 8, 9, 10, 11, 12, 13, 14, 15, 16, 17, 18] (yc_now_ahead _ _ _ _ _ _ _ _ _ _ _ _) (by decide) (yf_now_ahead _ _ _ _ _ _ _ _ _ _ _ _) (fun _ => rfl) (fun v => yo_now_ahead _ _ _ _ _ _ _ _ _ _ _ _ v) (fun v => ym_now_ahead _ _ _ _ _ _ _ _ _ _ _ _ v) 0 3 rfl rfl rfl hl.1 rfl (Nat.le_of_ble_eq_true rfl) ⟨Nat.zero_le _, Nat.zero_le _⟩ dX4_leave_23 (fun u23 H locs hw23 hP hD hS => ?_)
    obtain ⟨w23, rfl, e23a, e23b⟩ := hw23
    have hP : PP G (xw G h x w23 wa w0 w1 rd wr z jj lt) H := hP
    have hD : va_D A (xw G h x w23 wa w0 w1 rd wr z jj lt) := hD
    refine lv_aload_n hx hb dX4_leave_26 rfl (lv_at hl 1 rfl) ?_
    refine lv_iconst (v := nI 0) hx hb dX4_leave_27 (by decide) ?_
    refine va_put (D := gD G) (ci := 4) (v := .int (nI 0)) (ty := .boolean) (C := RX4) (T := TX4) (N := 9) hx hb hts hiX4 tyX4 tyX4_ok nmX4 hown hK hP hD hS 0 (xp_0 _ _ _ _ _ _ _ _ _ _ _ _) rfl 7 (by decide) k48 (fun _ h9 => h9) rfl (by decide +kernel) (rfl) (rfl) (Nat.le_of_ble_eq_true rfl) dX4_leave_28 (fun H locs hP hD hS => ?_)
    have hP : PP G (xw G h (oI x 7 (nI 0)) w23 wa w0 w1 rd wr z jj lt) H := hP
    have hD : va_D A (xw G h (oI x 7 (nI 0)) w23 wa w0 w1 rd wr z jj lt) := hD
    refine lv_iload_n hx hb dX4_leave_31 rfl (lv_at hl 0 rfl) ?_
    exact W.iret (v := nI (n11)) hx hb hr (fun t ht hW => ⟨⟨nI (n11), (oI x 7 (nI 0), w23, wa, w0, w1, rd, wr, z, jj, lt), rfl, ⟨_, _, _, _, _, _, _, _, _, _, rfl, ⟨nva, nla, e23a.trans (hnva), by omega, e23b.trans (hnla), by omega⟩, ⟨nva, nla, hnva, by omega, hnla, by omega⟩, ⟨nv0, nl0, hnv0, by omega, hnl0, by omega⟩, ⟨nv1, nl1, hnv1, by omega, hnl1, by omega⟩, rfl, rfl, rfl, rfl⟩, show PP G (xw G h (oI x 7 (nI 0)) w23 wa w0 w1 rd wr z jj lt) t.heap by rw [ht]; exact hP⟩, hS.F ht⟩) hS.2.2 dX4_leave_32
  · skip
    refine lv_ldc (v := (-1000000003 : Int32)) hx hb hown (hts (.constant RX4 148 (-1000000003)) (List.mem_of_getElem? (i := 2) rfl)) dX4_leave_7 ?_
    exact W.iret (v := (-1000000003 : Int32)) hx hb hr (fun t ht hW => ⟨⟨(-1000000003 : Int32), (x, wn, wa, w0, w1, rd, wr, z, jj, lt), rfl, ⟨_, _, _, _, _, _, _, _, _, _, rfl, ⟨nv, nl, hnv, by omega, hnl, by omega⟩, ⟨nva, nla, hnva, by omega, hnla, by omega⟩, ⟨nv0, nl0, hnv0, by omega, hnl0, by omega⟩, ⟨nv1, nl1, hnv1, by omega, hnl1, by omega⟩, rfl, rfl, rfl, rfl⟩, show PP G (xw G h x wn wa w0 w1 rd wr z jj lt) t.heap by rw [ht]; exact hP⟩, hS.F ht⟩) hS.2.2 dX4_leave_9
set_option maxHeartbeats 1000000 in
set_option maxRecDepth 100000 in
theorem mt_X4_driftOneLine (l : Launch) (G : gG) (h : Nat → Nat) (sz : Nat) (x : oS) (wn : oS) (wa : oS) (w0 : oS) (w1 : oS) (rd : oS) (wr : oS) (z : oS) (jj : Nat → Nat → Int64) (lt : Int64) (nv : Nat) (nl : Nat) (hnv : wn.1 0 = nI nv) (hnl : wn.1 5 = nI nl) (hnv24 : nv ≤ 24) (hnl120 : nl ≤ 120) : Met l yX4_driftOneLine wsX4_driftOneLine ({ frames := 4, cells := 0, slots := 0, locals := 96 }) (preW G (xw G h x wn wa w0 w1 rd wr z jj lt) sz [.ref (h 0)]) (va_Qi (fun (r : Int32) (v : oS × oS × oS × oS × oS × oS × oS × oS × (Nat → Nat → Int64) × Int64) => ∃ p y n m, v = (x, p, wa, w0, w1, rd, wr, z, jj, y) ∧ p.1 0 = nI n ∧ n ≤ 24 ∧ p.1 5 = nI m ∧ m ≤ 120 ∧ (r = 0 ∨ r = 1)) (fun v t => PP G (xw G h v.1 v.2.1 v.2.2.1 v.2.2.2.1 v.2.2.2.2.1 v.2.2.2.2.2.1 v.2.2.2.2.2.2.1 v.2.2.2.2.2.2.2.1 v.2.2.2.2.2.2.2.2.1 v.2.2.2.2.2.2.2.2.2) t.heap) (va_A (xw G h x wn wa w0 w1 rd wr z jj lt) sz)) 0 0 (va_A (xw G h x wn wa w0 w1 rd wr z jj lt) sz) := by
  refine Met.ofW (cc := cX4_driftOneLine) (maxL := 4) (ret := (some .boolean)) (by decide) rfl ?_
  intro p e s m args below meth c s₁ B hml hv
  obtain ⟨ha, hsz, hP, hK, hN, hD0⟩ := hv
  subst ha
  have hx := B.exec
  have hb := B.bytes
  have hr := B.returns
  have hts := atoms_spec (ws := wsX4_driftOneLine) B.pre
  have hown : s.vm.findClass RX4 = some m.cls := findClass_of_methodNamed B.named
  have hlocks := B.notSynchronized
  subst hsz
  have hD := hD0.self (sz := s.heap.size)
  generalize hAe : va_A (xw G h x wn wa w0 w1 rd wr z jj lt) s.heap.size = A at hD ⊢
  have hA : ∀ q : Nat, s.heap.size ≤ q → A q := fun q h => by rw [← hAe]; exact Or.inr h
  clear hAe hD0
  have hS : va_S A s.heap s.heap [] := va_S.rf
  have hiX4 : ∀ w ∈ wsX40, w ∈ wsX4_driftOneLine := by decide +kernel
  have k44 := hts (.fieldLink RX4 44 "WovenHistory" "lots" "LWovenHistory$Lots;") (List.mem_of_getElem? (i := 1) rfl)
  have k10 := hts (.fieldLink RX4 10 "WovenHistory" "now" "LWovenHistory$Weave;") (List.mem_of_getElem? (i := 2) rfl)
  have hiX3 : ∀ w ∈ wsX30, w ∈ wsX4_driftOneLine := by decide +kernel
  have k85 : (Cond.fieldLinkNest "WovenHistory" 85 "WovenHistory$Weave" "lines" "I" "WovenHistory").before _ s = true := va_Nw.use (A := ([.ref (h 0)] : List Value).toArray) rfl (hN.1 ("WovenHistory", 85, "WovenHistory$Weave", "lines", "I") (List.mem_of_getElem? (i := 13) rfl))
  have hl := lv_entry ([.ref (h 0)]) (n := 4) (Nat.le_of_ble_eq_true rfl)
  rw [lg_entry_eq]
  generalize (lg_sl ([.ref (h 0)]) ++ List.replicate (4 - (lg_sl ([.ref (h 0)])).length) Slot.unset).toArray = ls at hl ⊢
  have hl : lv_has ls 4 [(0, .ref (h 0))] := hl
  refine lv_aload_n hx hb dX4_driftOneLine_0 rfl (lv_at hl 0 rfl) ?_
  refine va_get (D := gD G) (ci := 4) (v := .ref (h 80)) (C := RX4) (T := TX4) (N := 9) hx hb hts hiX4 hown hK hP 0 (xp_0 _ _ _ _ _ _ _ _ _ _ _ _) rfl 6 (by decide) k44 (fun _ h9 => h9) rfl dX4_driftOneLine_1 ?_
  refine lv_iconst (v := nI 3) hx hb dX4_driftOneLine_4 (by decide) ?_
  refine cWi (As := [.int (nI 3)]) (rest := []) (S := Int64) (wa := xw G h x wn wa w0 w1 rd wr z jj lt) (wc := tv G (fun k => h (80 + k)) lt) (w1 := fun v => tv G (fun k => h (80 + k)) v) (wa' := fun v => xw G h x wn wa w0 w1 rd wr z jj v) ⟨hx, hb, hml, hown, hts⟩ (mt_X0_below l G (fun k => h (80 + k)) _ lt (nI 3)) (cwV 1 hts gX4_driftOneLine_X0_below rfl rfl rfl (by decide +kernel) ⟨Nat.le_of_ble_eq_true rfl, Nat.le_of_ble_eq_true rfl⟩) hK hN hP hD hS hA [54] (xc_t _ _ _ _ _ _ _ _ _ _ _ _) (by decide) (xf_t _ _ _ _ _ _ _ _ _ _ _ _) (fun _ => rfl) (fun v => xo_t _ _ _ _ _ _ _ _ _ _ _ _ v) (fun v => xm_t _ _ _ _ _ _ _ _ _ _ _ _ v) 0 0 rfl rfl rfl hl.1 rfl (Nat.le_of_ble_eq_true rfl) ⟨Nat.zero_le _, Nat.zero_le _⟩ dX4_driftOneLine_5 (fun r5 u5 H locs hw5 hP hD hS => ?_)
  have hP : PP G (xw G h x wn wa w0 w1 rd wr z jj u5) H := hP
  have hD : va_D A (xw G h x wn wa w0 w1 rd wr z jj u5) := hD
  refine lv_iconst (v := nI 2) hx hb dX4_driftOneLine_8 (by decide) ?_
  refine lv_icmp_ne (tgt := 16) hx hb dX4_driftOneLine_9 (by decide) (fun c9 => ?_) (fun c9 => ?_)
  · skip
    refine lv_iconst (v := nI 0) hx hb dX4_driftOneLine_16 (by decide) ?_
    refine lv_istore_n (lv' := [(1, .int (nI 0)), (0, .ref (h 0))]) hx hb dX4_driftOneLine_17 rfl hl (by decide) rfl (fun ls hl => ?_)
    refine lv_aload_n hx hb dX4_driftOneLine_18 rfl (lv_at hl 1 rfl) ?_
    refine cRi (w := xw G h x wn wa w0 w1 rd wr z jj u5) (As := []) (rest := []) ⟨hx, hb, hml, hown, hts⟩ (mt_X4_openLines l G h x wn wa w0 w1 rd wr z jj u5 nv nl (hnv) (hnl) (by first | assumption | omega) (by first | assumption | omega)) (cwV 0 hts gX4_driftOneLine_X4_openLines rfl rfl rfl (by decide +kernel) ⟨Nat.le_of_ble_eq_true rfl, Nat.le_of_ble_eq_true rfl⟩) hK hN hP 0 4 rfl rfl rfl hl.1 rfl (Nat.le_of_ble_eq_true rfl) ⟨Nat.zero_le _, Nat.zero_le _⟩ dX4_driftOneLine_19 (fun r19 hw19 => ?_)
    obtain ⟨n19, hn19, rfl⟩ := hw19
    refine lv_istore_n (lv' := [(2, .int (nI (n19))), (1, .int (nI 0)), (0, .ref (h 0))]) hx hb dX4_driftOneLine_22 rfl hl (by decide) rfl (fun ls hl => ?_)
    refine lv_iload_n hx hb dX4_driftOneLine_23 rfl (lv_at hl 1 rfl) ?_
    refine lv_if_eq (tgt := 49) hx hb dX4_driftOneLine_24 (by decide) (fun _ => ?_) (fun c9 => absurd (by decide) c9)
    refine lv_aload_n hx hb dX4_driftOneLine_49 rfl (lv_at hl 2 rfl) ?_
    refine va_get (D := gD G) (ci := 4) (v := .ref (h 10)) (C := RX4) (T := TX4) (N := 9) hx hb hts hiX4 hown hK hP 0 (xp_0 _ _ _ _ _ _ _ _ _ _ _ _) rfl 0 (by decide) k10 (fun _ h9 => h9) rfl dX4_driftOneLine_50 ?_
    refine va_getN (D := gD G) (ci := 3) (v := .int (wn.1 5)) (C := RX3) (T := TX3) (N := 9) hx hb hts hiX3 hown hK hP 3 (xp_3 _ _ _ _ _ _ _ _ _ _ _ _) rfl 5 (by decide) k85 (fun _ h9 => h9) rfl dX4_driftOneLine_53 ?_
    refine topE hnl ?_
    refine lv_bipush (v := nI 120) hx hb dX4_driftOneLine_56 (by decide) ?_
    refine lv_icmp_lt (tgt := 63) hx hb dX4_driftOneLine_58 (by decide) (fun c58 => ?_) (fun c58 => ?_)
    · skip
      have n58 : nl < 120 := (nI_ltI (a := nl) (b := 120) (by omega) (by omega)).mp c58
      refine lv_bipush (v := nI 65) hx hb dX4_driftOneLine_63 (by decide) ?_
      refine lv_aload_n hx hb dX4_driftOneLine_65 rfl (lv_at hl 2 rfl) ?_
      refine va_get (D := gD G) (ci := 4) (v := .ref (h 80)) (C := RX4) (T := TX4) (N := 9) hx hb hts hiX4 hown hK hP 0 (xp_0 _ _ _ _ _ _ _ _ _ _ _ _) rfl 6 (by decide) k44 (fun _ h9 => h9) rfl dX4_driftOneLine_66 ?_
      refine lv_bipush (v := nI 26) hx hb dX4_driftOneLine_69 (by decide) ?_
      refine cWi (As := [.int (nI 26)]) (rest := [.int (nI 65)]) (S := Int64) (wa := xw G h x wn wa w0 w1 rd wr z jj u5) (wc := tv G (fun k => h (80 + k)) u5) (w1 := fun v => tv G (fun k => h (80 + k)) v) (wa' := fun v => xw G h x wn wa w0 w1 rd wr z jj v) ⟨hx, hb, hml, hown, hts⟩ (mt_X0_below l G (fun k => h (80 + k)) _ u5 (nI 26)) (cwV 1 hts gX4_driftOneLine_X0_below rfl rfl rfl (by decide +kernel) ⟨Nat.le_of_ble_eq_true rfl, Nat.le_of_ble_eq_true rfl⟩) hK hN hP hD hS hA [54] (xc_t _ _ _ _ _ _ _ _ _ _ _ _) (by decide) (xf_t _ _ _ _ _ _ _ _ _ _ _ _) (fun _ => rfl) (fun v => xo_t _ _ _ _ _ _ _ _ _ _ _ _ v) (fun v => xm_t _ _ _ _ _ _ _ _ _ _ _ _ v) 0 0 rfl rfl rfl hl.1 rfl (Nat.le_of_ble_eq_true rfl) ⟨Nat.zero_le _, Nat.zero_le _⟩ dX4_driftOneLine_71 (fun r71 u71 H locs hw71 hP hD hS => ?_)
      have hP : PP G (xw G h x wn wa w0 w1 rd wr z jj u71) H := hP
      have hD : va_D A (xw G h x wn wa w0 w1 rd wr z jj u71) := hD
      refine lv_iadd hx hb dX4_driftOneLine_74 ?_
      refine lv_istore_n (lv' := [(3, .int ((nI 65) + r71)), (2, .int (nI (n19))), (1, .int (nI 0)), (0, .ref (h 0))]) hx hb dX4_driftOneLine_75 rfl hl (by decide) rfl (fun ls hl => ?_)
      refine lv_aload_n hx hb dX4_driftOneLine_76 rfl (lv_at hl 3 rfl) ?_
      refine va_get (D := gD G) (ci := 4) (v := .ref (h 10)) (C := RX4) (T := TX4) (N := 9) hx hb hts hiX4 hown hK hP 0 (xp_0 _ _ _ _ _ _ _ _ _ _ _ _) rfl 0 (by decide) k10 (fun _ h9 => h9) rfl dX4_driftOneLine_77 ?_
      refine lv_aload_n hx hb dX4_driftOneLine_80 rfl (lv_at hl 3 rfl) ?_
      refine va_get (D := gD G) (ci := 4) (v := .ref (h 80)) (C := RX4) (T := TX4) (N := 9) hx hb hts hiX4 hown hK hP 0 (xp_0 _ _ _ _ _ _ _ _ _ _ _ _) rfl 6 (by decide) k44 (fun _ h9 => h9) rfl dX4_driftOneLine_81 ?_
      refine lv_iload_n hx hb dX4_driftOneLine_84 rfl (lv_at hl 1 rfl) ?_
      refine lv_iconst (v := nI 1) hx hb dX4_driftOneLine_85 (by decide) ?_
      refine lv_iadd hx hb dX4_driftOneLine_86 ?_
      refine topE (y := nI (n19 + 1)) (nI_add n19 1) ?_
      refine cWi (As := [.int (nI (n19 + 1))]) (rest := [.ref (h 10)]) (S := Int64) (wa := xw G h x wn wa w0 w1 rd wr z jj u71) (wc := tv G (fun k => h (80 + k)) u71) (w1 := fun v => tv G (fun k => h (80 + k)) v) (wa' := fun v => xw G h x wn wa w0 w1 rd wr z jj v) ⟨hx, hb, hml, hown, hts⟩ (mt_X0_below l G (fun k => h (80 + k)) _ u71 (nI (n19 + 1))) (cwV 1 hts gX4_driftOneLine_X0_below rfl rfl rfl (by decide +kernel) ⟨Nat.le_of_ble_eq_true rfl, Nat.le_of_ble_eq_true rfl⟩) hK hN hP hD hS hA [54] (xc_t _ _ _ _ _ _ _ _ _ _ _ _) (by decide) (xf_t _ _ _ _ _ _ _ _ _ _ _ _) (fun _ => rfl) (fun v => xo_t _ _ _ _ _ _ _ _ _ _ _ _ v) (fun v => xm_t _ _ _ _ _ _ _ _ _ _ _ _ v) 0 0 rfl rfl rfl hl.1 rfl (Nat.le_of_ble_eq_true rfl) ⟨Nat.zero_le _, Nat.zero_le _⟩ dX4_driftOneLine_87 (fun r87 u87 H locs hw87 hP hD hS => ?_)
      have hP : PP G (xw G h x wn wa w0 w1 rd wr z jj u87) H := hP
      have hD : va_D A (xw G h x wn wa w0 w1 rd wr z jj u87) := hD
      refine lv_iload_n hx hb dX4_driftOneLine_90 rfl (lv_at hl 0 rfl) ?_
      refine cWi (As := [.int r87, .int ((nI 65) + r71)]) (rest := []) (S := oS) (wa := xw G h x wn wa w0 w1 rd wr z jj u87) (wc := wv G (fun k => h (10 + k)) wn) (w1 := fun v => wv G (fun k => h (10 + k)) v) (wa' := fun v => xw G h x v wa w0 w1 rd wr z jj u87) ⟨hx, hb, hml, hown, hts⟩ (mt_X3_putByNext l G (fun k => h (10 + k)) _ wn nv nl r87 ((nI 65) + r71) (hnv) (hnl) (by first | assumption | omega) (by first | assumption | omega)) (cwV 2 hts gX4_driftOneLine_X3_putByNext rfl rfl rfl (by decide +kernel) ⟨Nat.le_of_ble_eq_true rfl, Nat.le_of_ble_eq_true rfl⟩) hK hN hP hD hS hA [3, 4, 5, 6, 7, 8, 9, 10] (xc_now _ _ _ _ _ _ _ _ _ _ _ _) (by decide) (xf_now _ _ _ _ _ _ _ _ _ _ _ _) (fun _ => rfl) (fun v => xo_now _ _ _ _ _ _ _ _ _ _ _ _ v) (fun v => xm_now _ _ _ _ _ _ _ _ _ _ _ _ v) 0 3 rfl rfl rfl hl.1 rfl (Nat.le_of_ble_eq_true rfl) ⟨Nat.zero_le _, Nat.zero_le _⟩ dX4_driftOneLine_91 (fun r91 u91 H locs hw91 hP hD hS => ?_)
      obtain ⟨hR91, n91, hn91, en91⟩ := hw91
      have hP : PP G (xw G h x u91 wa w0 w1 rd wr z jj u87) H := hP
      have hD : va_D A (xw G h x u91 wa w0 w1 rd wr z jj u87) := hD
      refine lv_pop hx hb dX4_driftOneLine_94 rfl ?_
      refine lv_iconst (v := nI 1) hx hb dX4_driftOneLine_95 (by decide) ?_
      exact W.zret (v := nI 1) hx hb hr (by decide) (fun t ht hW => ⟨⟨nI 1, (x, u91, wa, w0, w1, rd, wr, z, jj, u87), rfl, ⟨_, _, nv, n91, rfl, (hR91.1 0 (by decide)).trans (hnv), by omega, en91, by omega, by first | exact Or.inl rfl | exact Or.inr rfl | assumption⟩, show PP G (xw G h x u91 wa w0 w1 rd wr z jj u87) t.heap by rw [ht]; exact hP⟩, hS.F ht⟩) hS.2.2 dX4_driftOneLine_96
    · skip
      have n58 : ¬ (nl < 120) := fun q9 => c58 ((nI_ltI (a := nl) (b := 120) (by omega) (by omega)).mpr q9)
      refine lv_iconst (v := nI 0) hx hb dX4_driftOneLine_61 (by decide) ?_
      exact W.zret (v := nI 0) hx hb hr (by decide) (fun t ht hW => ⟨⟨nI 0, (x, wn, wa, w0, w1, rd, wr, z, jj, u5), rfl, ⟨_, _, nv, nl, rfl, hnv, by omega, hnl, by omega, by first | exact Or.inl rfl | exact Or.inr rfl | assumption⟩, show PP G (xw G h x wn wa w0 w1 rd wr z jj u5) t.heap by rw [ht]; exact hP⟩, hS.F ht⟩) hS.2.2 dX4_driftOneLine_62
  · skip
    refine lv_iconst (v := nI 1) hx hb dX4_driftOneLine_12 (by decide) ?_
    refine lv_goto (tgt := 17) hx hb dX4_driftOneLine_13 (by decide) ?_
    refine lv_istore_n (lv' := [(1, .int (nI 1)), (0, .ref (h 0))]) hx hb dX4_driftOneLine_17 rfl hl (by decide) rfl (fun ls hl => ?_)
    refine lv_aload_n hx hb dX4_driftOneLine_18 rfl (lv_at hl 1 rfl) ?_
    refine cRi (w := xw G h x wn wa w0 w1 rd wr z jj u5) (As := []) (rest := []) ⟨hx, hb, hml, hown, hts⟩ (mt_X4_openLines l G h x wn wa w0 w1 rd wr z jj u5 nv nl (hnv) (hnl) (by first | assumption | omega) (by first | assumption | omega)) (cwV 0 hts gX4_driftOneLine_X4_openLines rfl rfl rfl (by decide +kernel) ⟨Nat.le_of_ble_eq_true rfl, Nat.le_of_ble_eq_true rfl⟩) hK hN hP 0 4 rfl rfl rfl hl.1 rfl (Nat.le_of_ble_eq_true rfl) ⟨Nat.zero_le _, Nat.zero_le _⟩ dX4_driftOneLine_19 (fun r19 hw19 => ?_)
    obtain ⟨n19, hn19, rfl⟩ := hw19
    refine lv_istore_n (lv' := [(2, .int (nI (n19))), (1, .int (nI 1)), (0, .ref (h 0))]) hx hb dX4_driftOneLine_22 rfl hl (by decide) rfl (fun ls hl => ?_)
    refine lv_iload_n hx hb dX4_driftOneLine_23 rfl (lv_at hl 1 rfl) ?_
    refine lv_if_eq (tgt := 49) hx hb dX4_driftOneLine_24 (by decide) (fun c9 => absurd c9 (by decide)) (fun _ => ?_)
    refine lv_iload_n hx hb dX4_driftOneLine_27 rfl (lv_at hl 0 rfl) ?_
    refine lv_if_le (tgt := 47) hx hb dX4_driftOneLine_28 (by decide) (fun c28 => ?_) (fun c28 => ?_)
    · skip
      have n28 : n19 ≤ 0 := (nI_leI (a := n19) (b := 0) (by omega) (by omega)).mp c28
      refine lv_iconst (v := nI 1) hx hb dX4_driftOneLine_47 (by decide) ?_
      exact W.zret (v := nI 1) hx hb hr (by decide) (fun t ht hW => ⟨⟨nI 1, (x, wn, wa, w0, w1, rd, wr, z, jj, u5), rfl, ⟨_, _, nv, nl, rfl, hnv, by omega, hnl, by omega, by first | exact Or.inl rfl | exact Or.inr rfl | assumption⟩, show PP G (xw G h x wn wa w0 w1 rd wr z jj u5) t.heap by rw [ht]; exact hP⟩, hS.F ht⟩) hS.2.2 dX4_driftOneLine_48
    · skip
      have n28 : ¬ (n19 ≤ 0) := fun q9 => c28 ((nI_leI (a := n19) (b := 0) (by omega) (by omega)).mpr q9)
      refine lv_aload_n hx hb dX4_driftOneLine_31 rfl (lv_at hl 2 rfl) ?_
      refine va_get (D := gD G) (ci := 4) (v := .ref (h 10)) (C := RX4) (T := TX4) (N := 9) hx hb hts hiX4 hown hK hP 0 (xp_0 _ _ _ _ _ _ _ _ _ _ _ _) rfl 0 (by decide) k10 (fun _ h9 => h9) rfl dX4_driftOneLine_32 ?_
      refine lv_aload_n hx hb dX4_driftOneLine_35 rfl (lv_at hl 2 rfl) ?_
      refine va_get (D := gD G) (ci := 4) (v := .ref (h 80)) (C := RX4) (T := TX4) (N := 9) hx hb hts hiX4 hown hK hP 0 (xp_0 _ _ _ _ _ _ _ _ _ _ _ _) rfl 6 (by decide) k44 (fun _ h9 => h9) rfl dX4_driftOneLine_36 ?_
      refine lv_iload_n hx hb dX4_driftOneLine_39 rfl (lv_at hl 0 rfl) ?_
      refine cWi (As := [.int (nI (n19))]) (rest := [.ref (h 10)]) (S := Int64) (wa := xw G h x wn wa w0 w1 rd wr z jj u5) (wc := tv G (fun k => h (80 + k)) u5) (w1 := fun v => tv G (fun k => h (80 + k)) v) (wa' := fun v => xw G h x wn wa w0 w1 rd wr z jj v) ⟨hx, hb, hml, hown, hts⟩ (mt_X0_below l G (fun k => h (80 + k)) _ u5 (nI (n19))) (cwV 1 hts gX4_driftOneLine_X0_below rfl rfl rfl (by decide +kernel) ⟨Nat.le_of_ble_eq_true rfl, Nat.le_of_ble_eq_true rfl⟩) hK hN hP hD hS hA [54] (xc_t _ _ _ _ _ _ _ _ _ _ _ _) (by decide) (xf_t _ _ _ _ _ _ _ _ _ _ _ _) (fun _ => rfl) (fun v => xo_t _ _ _ _ _ _ _ _ _ _ _ _ v) (fun v => xm_t _ _ _ _ _ _ _ _ _ _ _ _ v) 0 0 rfl rfl rfl hl.1 rfl (Nat.le_of_ble_eq_true rfl) ⟨Nat.zero_le _, Nat.zero_le _⟩ dX4_driftOneLine_40 (fun r40 u40 H locs hw40 hP hD hS => ?_)
      have hP : PP G (xw G h x wn wa w0 w1 rd wr z jj u40) H := hP
      have hD : va_D A (xw G h x wn wa w0 w1 rd wr z jj u40) := hD
      refine cWi (As := [.int r40]) (rest := []) (S := oS) (wa := xw G h x wn wa w0 w1 rd wr z jj u40) (wc := wv G (fun k => h (10 + k)) wn) (w1 := fun v => wv G (fun k => h (10 + k)) v) (wa' := fun v => xw G h x v wa w0 w1 rd wr z jj u40) ⟨hx, hb, hml, hown, hts⟩ (mt_X3_takeByNext l G (fun k => h (10 + k)) _ wn nv nl r40 (hnv) (hnl) (by first | assumption | omega) (by first | assumption | omega)) (cwV 1 hts gX4_driftOneLine_X3_takeByNext rfl rfl rfl (by decide +kernel) ⟨Nat.le_of_ble_eq_true rfl, Nat.le_of_ble_eq_true rfl⟩) hK hN hP hD hS hA [3, 4, 5, 6, 7, 8, 9, 10] (xc_now _ _ _ _ _ _ _ _ _ _ _ _) (by decide) (xf_now _ _ _ _ _ _ _ _ _ _ _ _) (fun _ => rfl) (fun v => xo_now _ _ _ _ _ _ _ _ _ _ _ _ v) (fun v => xm_now _ _ _ _ _ _ _ _ _ _ _ _ v) 0 3 rfl rfl rfl hl.1 rfl (Nat.le_of_ble_eq_true rfl) ⟨Nat.zero_le _, Nat.zero_le _⟩ dX4_driftOneLine_43 (fun r43 u43 H locs hw43 hP hD hS => ?_)
      obtain ⟨hR43, n43, hn43, en43⟩ := hw43
      have hP : PP G (xw G h x u43 wa w0 w1 rd wr z jj u40) H := hP
      have hD : va_D A (xw G h x u43 wa w0 w1 rd wr z jj u40) := hD
      refine lv_pop hx hb dX4_driftOneLine_46 rfl ?_
      refine lv_iconst (v := nI 1) hx hb dX4_driftOneLine_47 (by decide) ?_
      exact W.zret (v := nI 1) hx hb hr (by decide) (fun t ht hW => ⟨⟨nI 1, (x, u43, wa, w0, w1, rd, wr, z, jj, u40), rfl, ⟨_, _, nv, n43, rfl, (hR43.1 0 (by decide)).trans (hnv), by omega, en43, by omega, by first | exact Or.inl rfl | exact Or.inr rfl | assumption⟩, show PP G (xw G h x u43 wa w0 w1 rd wr z jj u40) t.heap by rw [ht]; exact hP⟩, hS.F ht⟩) hS.2.2 dX4_driftOneLine_48
set_option maxHeartbeats 1000000 in
set_option maxRecDepth 100000 in
theorem mt_X4_driftOneVersion (l : Launch) (G : gG) (h : Nat → Nat) (sz : Nat) (x : oS) (wn : oS) (wa : oS) (w0 : oS) (w1 : oS) (rd : oS) (wr : oS) (z : oS) (jj : Nat → Nat → Int64) (lt : Int64) (nv : Nat) (nl : Nat) (hnv : wn.1 0 = nI nv) (hnl : wn.1 5 = nI nl) (hnv24 : nv ≤ 24) (hnl120 : nl ≤ 120) : Met l yX4_driftOneVersion wsX4_driftOneVersion ({ frames := 5, cells := 0, slots := 0, locals := 119 }) (preW G (xw G h x wn wa w0 w1 rd wr z jj lt) sz [.ref (h 0)]) (va_Qi (fun (r : Int32) (v : oS × oS × oS × oS × oS × oS × oS × oS × (Nat → Nat → Int64) × Int64) => ∃ p y n m, v = (x, p, wa, w0, w1, rd, wr, z, jj, y) ∧ p.1 0 = nI n ∧ n ≤ 24 ∧ p.1 5 = nI m ∧ m ≤ 120 ∧ (r = 0 ∨ r = 1)) (fun v t => PP G (xw G h v.1 v.2.1 v.2.2.1 v.2.2.2.1 v.2.2.2.2.1 v.2.2.2.2.2.1 v.2.2.2.2.2.2.1 v.2.2.2.2.2.2.2.1 v.2.2.2.2.2.2.2.2.1 v.2.2.2.2.2.2.2.2.2) t.heap) (va_A (xw G h x wn wa w0 w1 rd wr z jj lt) sz)) 0 0 (va_A (xw G h x wn wa w0 w1 rd wr z jj lt) sz) := by
  refine Met.ofW (cc := cX4_driftOneVersion) (maxL := 3) (ret := (some .boolean)) (by decide) rfl ?_
  intro p e s m args below meth c s₁ B hml hv
  obtain ⟨ha, hsz, hP, hK, hN, hD0⟩ := hv
  subst ha
  have hx := B.exec
  have hb := B.bytes
  have hr := B.returns
  have hts := atoms_spec (ws := wsX4_driftOneVersion) B.pre
  have hown : s.vm.findClass RX4 = some m.cls := findClass_of_methodNamed B.named
  have hlocks := B.notSynchronized
  subst hsz
  have hD := hD0.self (sz := s.heap.size)
  generalize hAe : va_A (xw G h x wn wa w0 w1 rd wr z jj lt) s.heap.size = A at hD ⊢
  have hA : ∀ q : Nat, s.heap.size ≤ q → A q := fun q h => by rw [← hAe]; exact Or.inr h
  clear hAe hD0
  have hS : va_S A s.heap s.heap [] := va_S.rf
  have hiX4 : ∀ w ∈ wsX40, w ∈ wsX4_driftOneVersion := by decide +kernel
  have k10 := hts (.fieldLink RX4 10 "WovenHistory" "now" "LWovenHistory$Weave;") (List.mem_of_getElem? (i := 1) rfl)
  have hiX3 : ∀ w ∈ wsX30, w ∈ wsX4_driftOneVersion := by decide +kernel
  have k82 : (Cond.fieldLinkNest "WovenHistory" 82 "WovenHistory$Weave" "versions" "I" "WovenHistory").before _ s = true := va_Nw.use (A := ([.ref (h 0)] : List Value).toArray) rfl (hN.1 ("WovenHistory", 82, "WovenHistory$Weave", "versions", "I") (List.mem_of_getElem? (i := 12) rfl))
  have k44 := hts (.fieldLink RX4 44 "WovenHistory" "lots" "LWovenHistory$Lots;") (List.mem_of_getElem? (i := 2) rfl)
  have hl := lv_entry ([.ref (h 0)]) (n := 3) (Nat.le_of_ble_eq_true rfl)
  rw [lg_entry_eq]
  generalize (lg_sl ([.ref (h 0)]) ++ List.replicate (3 - (lg_sl ([.ref (h 0)])).length) Slot.unset).toArray = ls at hl ⊢
  have hl : lv_has ls 3 [(0, .ref (h 0))] := hl
  refine lv_aload_n hx hb dX4_driftOneVersion_0 rfl (lv_at hl 0 rfl) ?_
  refine va_get (D := gD G) (ci := 4) (v := .ref (h 10)) (C := RX4) (T := TX4) (N := 9) hx hb hts hiX4 hown hK hP 0 (xp_0 _ _ _ _ _ _ _ _ _ _ _ _) rfl 0 (by decide) k10 (fun _ h9 => h9) rfl dX4_driftOneVersion_1 ?_
  refine va_getN (D := gD G) (ci := 3) (v := .int (wn.1 0)) (C := RX3) (T := TX3) (N := 9) hx hb hts hiX3 hown hK hP 3 (xp_3 _ _ _ _ _ _ _ _ _ _ _ _) rfl 0 (by decide) k82 (fun _ h9 => h9) rfl dX4_driftOneVersion_4 ?_
  refine topE hnv ?_
  refine lv_bipush (v := nI 24) hx hb dX4_driftOneVersion_7 (by decide) ?_
  refine lv_icmp_lt (tgt := 14) hx hb dX4_driftOneVersion_9 (by decide) (fun c9 => ?_) (fun c9 => ?_)
  · skip
    have n9 : nv < 24 := (nI_ltI (a := nv) (b := 24) (by omega) (by omega)).mp c9
    refine lv_aload_n hx hb dX4_driftOneVersion_14 rfl (lv_at hl 0 rfl) ?_
    refine va_get (D := gD G) (ci := 4) (v := .ref (h 10)) (C := RX4) (T := TX4) (N := 9) hx hb hts hiX4 hown hK hP 0 (xp_0 _ _ _ _ _ _ _ _ _ _ _ _) rfl 0 (by decide) k10 (fun _ h9 => h9) rfl dX4_driftOneVersion_15 ?_
    refine lv_aload_n hx hb dX4_driftOneVersion_18 rfl (lv_at hl 0 rfl) ?_
    refine va_get (D := gD G) (ci := 4) (v := .ref (h 80)) (C := RX4) (T := TX4) (N := 9) hx hb hts hiX4 hown hK hP 0 (xp_0 _ _ _ _ _ _ _ _ _ _ _ _) rfl 6 (by decide) k44 (fun _ h9 => h9) rfl dX4_driftOneVersion_19 ?_
    refine lv_aload_n hx hb dX4_driftOneVersion_22 rfl (lv_at hl 0 rfl) ?_
    refine va_get (D := gD G) (ci := 4) (v := .ref (h 10)) (C := RX4) (T := TX4) (N := 9) hx hb hts hiX4 hown hK hP 0 (xp_0 _ _ _ _ _ _ _ _ _ _ _ _) rfl 0 (by decide) k10 (fun _ h9 => h9) rfl dX4_driftOneVersion_23 ?_
    refine va_getN (D := gD G) (ci := 3) (v := .int (wn.1 0)) (C := RX3) (T := TX3) (N := 9) hx hb hts hiX3 hown hK hP 3 (xp_3 _ _ _ _ _ _ _ _ _ _ _ _) rfl 0 (by decide) k82 (fun _ h9 => h9) rfl dX4_driftOneVersion_26 ?_
    refine topE hnv ?_
    refine cWi (As := [.int (nI nv)]) (rest := [.ref (h 10)]) (S := Int64) (wa := xw G h x wn wa w0 w1 rd wr z jj lt) (wc := tv G (fun k => h (80 + k)) lt) (w1 := fun v => tv G (fun k => h (80 + k)) v) (wa' := fun v => xw G h x wn wa w0 w1 rd wr z jj v) ⟨hx, hb, hml, hown, hts⟩ (mt_X0_below l G (fun k => h (80 + k)) _ lt (nI nv)) (cwV 1 hts gX4_driftOneVersion_X0_below rfl rfl rfl (by decide +kernel) ⟨Nat.le_of_ble_eq_true rfl, Nat.le_of_ble_eq_true rfl⟩) hK hN hP hD hS hA [54] (xc_t _ _ _ _ _ _ _ _ _ _ _ _) (by decide) (xf_t _ _ _ _ _ _ _ _ _ _ _ _) (fun _ => rfl) (fun v => xo_t _ _ _ _ _ _ _ _ _ _ _ _ v) (fun v => xm_t _ _ _ _ _ _ _ _ _ _ _ _ v) 0 0 rfl rfl rfl hl.1 rfl (Nat.le_of_ble_eq_true rfl) ⟨Nat.zero_le _, Nat.zero_le _⟩ dX4_driftOneVersion_29 (fun r29 u29 H locs hw29 hP hD hS => ?_)
    have hP : PP G (xw G h x wn wa w0 w1 rd wr z jj u29) H := hP
    have hD : va_D A (xw G h x wn wa w0 w1 rd wr z jj u29) := hD
    refine lv_iconst (v := nI 0) hx hb dX4_driftOneVersion_32 (by decide) ?_
    refine lv_iconst (v := nI 0) hx hb dX4_driftOneVersion_33 (by decide) ?_
    refine cWv (As := [.int r29, .int (nI 0), .int (nI 0)]) (rest := []) (S := oS) (wa := xw G h x wn wa w0 w1 rd wr z jj u29) (wc := wv G (fun k => h (10 + k)) wn) (w1 := fun v => wv G (fun k => h (10 + k)) v) (wa' := fun v => xw G h x v wa w0 w1 rd wr z jj u29) ⟨hx, hb, hml, hown, hts⟩ (mt_X3_beginVersion l G (fun k => h (10 + k)) _ wn nv r29 (nI 0) (nI 0) (hnv) (by first | assumption | omega)) (cwV 3 hts gX4_driftOneVersion_X3_beginVersion rfl rfl rfl (by decide +kernel) ⟨Nat.le_of_ble_eq_true rfl, Nat.le_of_ble_eq_true rfl⟩) hK hN hP hD hS hA [3, 4, 5, 6, 7, 8, 9, 10] (xc_now _ _ _ _ _ _ _ _ _ _ _ _) (by decide) (xf_now _ _ _ _ _ _ _ _ _ _ _ _) (fun _ => rfl) (fun v => xo_now _ _ _ _ _ _ _ _ _ _ _ _ v) (fun v => xm_now _ _ _ _ _ _ _ _ _ _ _ _ v) 0 3 rfl rfl rfl hl.1 rfl (Nat.le_of_ble_eq_true rfl) ⟨Nat.zero_le _, Nat.zero_le _⟩ dX4_driftOneVersion_34 (fun u34 H locs hw34 hP hD hS => ?_)
    have hR34 := hw34
    have hP : PP G (xw G h x u34 wa w0 w1 rd wr z jj u29) H := hP
    have hD : va_D A (xw G h x u34 wa w0 w1 rd wr z jj u29) := hD
    refine lv_iconst (v := nI 1) hx hb dX4_driftOneVersion_37 (by decide) ?_
    refine lv_istore_n (lv' := [(1, .int (nI 1)), (0, .ref (h 0))]) hx hb dX4_driftOneVersion_38 rfl hl (by decide) rfl (fun ls hl => ?_)
    refine lv_iconst (v := nI 0) hx hb dX4_driftOneVersion_39 (by decide) ?_
    refine lv_istore_n (lv' := [(2, .int (nI 0)), (1, .int (nI 1)), (0, .ref (h 0))]) hx hb dX4_driftOneVersion_40 rfl hl (by decide) rfl (fun ls hl => ?_)
    have LP41 : ∀ (n41m : Nat), ∀ (k : Nat) (x1 : Int32) (pw : oS) (y : Int64) (n : Nat) (mq : Nat) (hk : k ≤ 3) (en : pw.1 0 = nI n) (hn : n ≤ 24) (em : pw.1 5 = nI mq) (hm : mq ≤ 120) (hx01 : x1 = 0 ∨ x1 = 1), (3 - k < n41m) → ∀ (H : Heap) (locs : List Loc) (ls : Array Slot), PP G (xw G h x pw wa w0 w1 rd wr z jj y) H → va_D A (xw G h x pw wa w0 w1 rd wr z jj y) → va_S A s.heap H locs → lv_has ls 3 [(0, .ref (h 0)), (1, .int x1), (2, .int (nI k))] → W p l e (headSpec wsX4_driftOneVersion ({ frames := 5, cells := 0, slots := 0, locals := 119 })).room s m ([.ref (h 0)] : List Value).toArray below meth c H locs 0 0 (MQ below (va_Qi (fun (r : Int32) (v : oS × oS × oS × oS × oS × oS × oS × oS × (Nat → Nat → Int64) × Int64) => ∃ p y n m, v = (x, p, wa, w0, w1, rd, wr, z, jj, y) ∧ p.1 0 = nI n ∧ n ≤ 24 ∧ p.1 5 = nI m ∧ m ≤ 120 ∧ (r = 0 ∨ r = 1)) (fun v t => PP G (xw G h v.1 v.2.1 v.2.2.1 v.2.2.2.1 v.2.2.2.2.1 v.2.2.2.2.2.1 v.2.2.2.2.2.2.1 v.2.2.2.2.2.2.2.1 v.2.2.2.2.2.2.2.2.1 v.2.2.2.2.2.2.2.2.2) t.heap) A) ([.ref (h 0)] : List Value).toArray s 0 0 A) (F0 m 41 ls []) := by
      intro n41m
      induction n41m with
      | zero => intro k x1 pw y n mq hk en hn em hm hx01 hmu H locs ls hP hD hS hl; exact absurd hmu (Nat.not_lt_zero _)
      | succ n41m ih41 =>
        intro k x1 pw y n mq hk en hn em hm hx01 hmu H locs ls hP hD hS hl
        refine lv_iload_n hx hb dX4_driftOneVersion_41 rfl (lv_at hl 2 rfl) ?_
        refine lv_iconst (v := nI 3) hx hb dX4_driftOneVersion_42 (by decide) ?_
        refine lv_icmp_ge (tgt := 61) hx hb dX4_driftOneVersion_43 (by decide) (fun c43 => ?_) (fun c43 => ?_)
        · skip
          have n43 : 3 ≤ k := (nI_leI (a := 3) (b := k) (by omega) (by omega)).mp c43
          refine lv_aload_n hx hb dX4_driftOneVersion_61 rfl (lv_at hl 0 rfl) ?_
          refine va_get (D := gD G) (ci := 4) (v := .ref (h 10)) (C := RX4) (T := TX4) (N := 9) hx hb hts hiX4 hown hK hP 0 (xp_0 _ _ _ _ _ _ _ _ _ _ _ _) rfl 0 (by decide) k10 (fun _ h9 => h9) rfl dX4_driftOneVersion_62 ?_
          refine cWv (As := []) (rest := []) (S := oS) (wa := xw G h x pw wa w0 w1 rd wr z jj y) (wc := wv G (fun k => h (10 + k)) pw) (w1 := fun v => wv G (fun k => h (10 + k)) v) (wa' := fun v => xw G h x v wa w0 w1 rd wr z jj y) ⟨hx, hb, hml, hown, hts⟩ (mt_X3_finishVersion l G (fun k => h (10 + k)) _ pw n (en) (by first | assumption | omega)) (cwV 0 hts gX4_driftOneVersion_X3_finishVersion rfl rfl rfl (by decide +kernel) ⟨Nat.le_of_ble_eq_true rfl, Nat.le_of_ble_eq_true rfl⟩) hK hN hP hD hS hA [3, 4, 5, 6, 7, 8, 9, 10] (xc_now _ _ _ _ _ _ _ _ _ _ _ _) (by decide) (xf_now _ _ _ _ _ _ _ _ _ _ _ _) (fun _ => rfl) (fun v => xo_now _ _ _ _ _ _ _ _ _ _ _ _ v) (fun v => xm_now _ _ _ _ _ _ _ _ _ _ _ _ v) 0 3 rfl rfl rfl hl.1 rfl (Nat.le_of_ble_eq_true rfl) ⟨Nat.zero_le _, Nat.zero_le _⟩ dX4_driftOneVersion_65 (fun u65 H locs hw65 hP hD hS => ?_)
          obtain ⟨n65, hn65, rfl⟩ := hw65
          have hP : PP G (xw G h x (oI pw 0 (nI n65)) wa w0 w1 rd wr z jj y) H := hP
          have hD : va_D A (xw G h x (oI pw 0 (nI n65)) wa w0 w1 rd wr z jj y) := hD
          refine lv_iload_n hx hb dX4_driftOneVersion_68 rfl (lv_at hl 1 rfl) ?_
          exact W.zret (v := x1) hx hb hr (nar01 (by assumption)) (fun t ht hW => ⟨⟨x1, (x, oI pw 0 (nI n65), wa, w0, w1, rd, wr, z, jj, y), rfl, ⟨_, _, n65, mq, rfl, rfl, by omega, em, by omega, by first | exact Or.inl rfl | exact Or.inr rfl | assumption⟩, show PP G (xw G h x (oI pw 0 (nI n65)) wa w0 w1 rd wr z jj y) t.heap by rw [ht]; exact hP⟩, hS.F ht⟩) hS.2.2 dX4_driftOneVersion_69
        · skip
          have n43 : ¬ (3 ≤ k) := fun q9 => c43 ((nI_leI (a := 3) (b := k) (by omega) (by omega)).mpr q9)
          refine lv_iload_n hx hb dX4_driftOneVersion_46 rfl (lv_at hl 1 rfl) ?_
          refine lv_if_eq (tgt := 61) hx hb dX4_driftOneVersion_47 (by decide) (fun c47 => ?_) (fun c47 => ?_)
          · skip
            refine lv_aload_n hx hb dX4_driftOneVersion_61 rfl (lv_at hl 0 rfl) ?_
            refine va_get (D := gD G) (ci := 4) (v := .ref (h 10)) (C := RX4) (T := TX4) (N := 9) hx hb hts hiX4 hown hK hP 0 (xp_0 _ _ _ _ _ _ _ _ _ _ _ _) rfl 0 (by decide) k10 (fun _ h9 => h9) rfl dX4_driftOneVersion_62 ?_
            refine cWv (As := []) (rest := []) (S := oS) (wa := xw G h x pw wa w0 w1 rd wr z jj y) (wc := wv G (fun k => h (10 + k)) pw) (w1 := fun v => wv G (fun k => h (10 + k)) v) (wa' := fun v => xw G h x v wa w0 w1 rd wr z jj y) ⟨hx, hb, hml, hown, hts⟩ (mt_X3_finishVersion l G (fun k => h (10 + k)) _ pw n (en) (by first | assumption | omega)) (cwV 0 hts gX4_driftOneVersion_X3_finishVersion rfl rfl rfl (by decide +kernel) ⟨Nat.le_of_ble_eq_true rfl, Nat.le_of_ble_eq_true rfl⟩) hK hN hP hD hS hA [3, 4, 5, 6, 7, 8, 9, 10] (xc_now _ _ _ _ _ _ _ _ _ _ _ _) (by decide) (xf_now _ _ _ _ _ _ _ _ _ _ _ _) (fun _ => rfl) (fun v => xo_now _ _ _ _ _ _ _ _ _ _ _ _ v) (fun v => xm_now _ _ _ _ _ _ _ _ _ _ _ _ v) 0 3 rfl rfl rfl hl.1 rfl (Nat.le_of_ble_eq_true rfl) ⟨Nat.zero_le _, Nat.zero_le _⟩ dX4_driftOneVersion_65 (fun u65 H locs hw65 hP hD hS => ?_)
            obtain ⟨n65, hn65, rfl⟩ := hw65
            have hP : PP G (xw G h x (oI pw 0 (nI n65)) wa w0 w1 rd wr z jj y) H := hP
            have hD : va_D A (xw G h x (oI pw 0 (nI n65)) wa w0 w1 rd wr z jj y) := hD
            refine lv_iload_n hx hb dX4_driftOneVersion_68 rfl (lv_at hl 1 rfl) ?_
            exact W.zret (v := x1) hx hb hr (nar01 (by assumption)) (fun t ht hW => ⟨⟨x1, (x, oI pw 0 (nI n65), wa, w0, w1, rd, wr, z, jj, y), rfl, ⟨_, _, n65, mq, rfl, rfl, by omega, em, by omega, by first | exact Or.inl rfl | exact Or.inr rfl | assumption⟩, show PP G (xw G h x (oI pw 0 (nI n65)) wa w0 w1 rd wr z jj y) t.heap by rw [ht]; exact hP⟩, hS.F ht⟩) hS.2.2 dX4_driftOneVersion_69
          · skip
            refine lv_aload_n hx hb dX4_driftOneVersion_50 rfl (lv_at hl 0 rfl) ?_
            refine cXi (As := []) (rest := []) (S := oS × oS × oS × oS × oS × oS × oS × oS × (Nat → Nat → Int64) × Int64) (wa := xw G h x pw wa w0 w1 rd wr z jj y) (w1 := fun v => xw G h v.1 v.2.1 v.2.2.1 v.2.2.2.1 v.2.2.2.2.1 v.2.2.2.2.2.1 v.2.2.2.2.2.2.1 v.2.2.2.2.2.2.2.1 v.2.2.2.2.2.2.2.2.1 v.2.2.2.2.2.2.2.2.2) ⟨hx, hb, hml, hown, hts⟩ (mt_X4_driftOneLine l G h _ x pw wa w0 w1 rd wr z jj y n mq (en) (em) (by first | assumption | omega) (by first | assumption | omega)) (cwV 0 hts gX4_driftOneVersion_X4_driftOneLine rfl rfl rfl (by decide +kernel) ⟨Nat.le_of_ble_eq_true rfl, Nat.le_of_ble_eq_true rfl⟩) hK hN hP hD hS hA (fun v => xm_x _ _ _ _ _ _ _ _ _ _ _ _ v) 0 4 rfl rfl rfl hl.1 rfl (Nat.le_of_ble_eq_true rfl) ⟨Nat.zero_le _, Nat.zero_le _⟩ dX4_driftOneVersion_51 (fun r51 u51 H locs hw51 hP hD hS => ?_)
            obtain ⟨p51, y51, n51, m51, rfl, en51, hn51, em51, hm51, hz51⟩ := hw51
            have hP : PP G (xw G h x p51 wa w0 w1 rd wr z jj y51) H := hP
            have hD : va_D A (xw G h x p51 wa w0 w1 rd wr z jj y51) := hD
            refine lv_istore_n (lv' := [(1, .int r51), (0, .ref (h 0)), (2, .int (nI k))]) hx hb dX4_driftOneVersion_54 rfl hl (by decide) rfl (fun ls hl => ?_)
            refine lv_iinc (v := nI (k + 1)) (lv' := [(2, .int (nI (k + 1))), (1, .int r51), (0, .ref (h 0))]) hx hb dX4_driftOneVersion_55 hl (k := 2) rfl (nI_1 k) (by decide) rfl (fun ls hl => ?_)
            refine lv_goto (tgt := 41) hx hb dX4_driftOneVersion_58 (by decide) ?_
            exact ih41 (k + 1) r51 p51 y51 n51 m51 (by first | assumption | omega) (en51) (by first | assumption | omega) (em51) (by first | assumption | omega) (by first | exact Or.inl rfl | exact Or.inr rfl | assumption) (by omega) _ _ ls hP hD hS (lv_sub hl [2, 1, 0] rfl)
    exact LP41 (3 - 0 + 1) 0 (nI 1) u34 u29 nv nl (by first | assumption | omega) ((hR34.1 0 (by decide)).trans (hnv)) (by first | assumption | omega) ((hR34.1 5 (by decide)).trans (hnl)) (by first | assumption | omega) (by first | exact Or.inl rfl | exact Or.inr rfl | assumption) (Nat.lt_succ_self _) _ _ ls hP hD hS (lv_sub hl [2, 1, 0] rfl)
  · skip
    have n9 : ¬ (nv < 24) := fun q9 => c9 ((nI_ltI (a := nv) (b := 24) (by omega) (by omega)).mpr q9)
    refine lv_iconst (v := nI 0) hx hb dX4_driftOneVersion_12 (by decide) ?_
    exact W.zret (v := nI 0) hx hb hr (by decide) (fun t ht hW => ⟨⟨nI 0, (x, wn, wa, w0, w1, rd, wr, z, jj, lt), rfl, ⟨_, _, nv, nl, rfl, hnv, by omega, hnl, by omega, by first | exact Or.inl rfl | exact Or.inr rfl | assumption⟩, show PP G (xw G h x wn wa w0 w1 rd wr z jj lt) t.heap by rw [ht]; exact hP⟩, hS.F ht⟩) hS.2.2 dX4_driftOneVersion_13
set_option maxHeartbeats 1000000 in
set_option maxRecDepth 100000 in
theorem mt_X4_drift (l : Launch) (G : gG) (h : Nat → Nat) (sz : Nat) (x : oS) (wn : oS) (wa : oS) (w0 : oS) (w1 : oS) (rd : oS) (wr : oS) (z : oS) (jj : Nat → Nat → Int64) (lt : Int64) (nv : Nat) (nl : Nat) (nva : Nat) (nla : Nat) (nv0 : Nat) (nl0 : Nat) (nv1 : Nat) (nl1 : Nat) (len : Nat) (a : Int32) (b : Int32) (hnv : wn.1 0 = nI nv) (hnl : wn.1 5 = nI nl) (hnva : wa.1 0 = nI nva) (hnla : wa.1 5 = nI nla) (hnv0 : w0.1 0 = nI nv0) (hnl0 : w0.1 5 = nI nl0) (hnv1 : w1.1 0 = nI nv1) (hnl1 : w1.1 5 = nI nl1) (hlen : rd.1 1 = nI len) (hnv24 : nv ≤ 24) (hnl120 : nl ≤ 120) (hva24 : nva ≤ 24) (hla120 : nla ≤ 120) (hv024 : nv0 ≤ 24) (hl0120 : nl0 ≤ 120) (hv124 : nv1 ≤ 24) (hl1120 : nl1 ≤ 120) (hl240 : len ≤ 240) (hsz : ∀ j, j < 4 → z.2 1 j = -1 ∨ ∃ q, q ≤ 40 ∧ z.2 1 j = nI q) : Met l yX4_drift wsX4_drift ({ frames := 6, cells := 0, slots := 0, locals := 141 }) (preW G (xw G h x wn wa w0 w1 rd wr z jj lt) sz [.ref (h 0), .int a, .int b]) (va_Qi (fun (r : Int32) (v : oS × oS × oS × oS × oS × oS × oS × oS × (Nat → Nat → Int64) × Int64) => XQ x rd z v) (fun v t => PP G (xw G h v.1 v.2.1 v.2.2.1 v.2.2.2.1 v.2.2.2.2.1 v.2.2.2.2.2.1 v.2.2.2.2.2.2.1 v.2.2.2.2.2.2.2.1 v.2.2.2.2.2.2.2.2.1 v.2.2.2.2.2.2.2.2.2) t.heap) (va_A (xw G h x wn wa w0 w1 rd wr z jj lt) sz)) 0 0 (va_A (xw G h x wn wa w0 w1 rd wr z jj lt) sz) := by
  refine Met.ofW (cc := cX4_drift) (maxL := 5) (ret := (some .int)) (by decide) rfl ?_
  intro p e s m args below meth c s₁ B hml hv
  obtain ⟨ha, hsz, hP, hK, hN, hD0⟩ := hv
  subst ha
  have hx := B.exec
  have hb := B.bytes
  have hr := B.returns
  have hts := atoms_spec (ws := wsX4_drift) B.pre
  have hown : s.vm.findClass RX4 = some m.cls := findClass_of_methodNamed B.named
  have hlocks := B.notSynchronized
  subst hsz
  have hD := hD0.self (sz := s.heap.size)
  generalize hAe : va_A (xw G h x wn wa w0 w1 rd wr z jj lt) s.heap.size = A at hD ⊢
  have hA : ∀ q : Nat, s.heap.size ≤ q → A q := fun q h => by rw [← hAe]; exact Or.inr h
  clear hAe hD0
  have hS : va_S A s.heap s.heap [] := va_S.rf
  have hiX4 : ∀ w ∈ wsX40, w ∈ wsX4_drift := by decide +kernel
  have k48 := hts (.fieldLink RX4 48 "WovenHistory" "opened" "Z") (List.mem_of_getElem? (i := 3) rfl)
  have k10 := hts (.fieldLink RX4 10 "WovenHistory" "now" "LWovenHistory$Weave;") (List.mem_of_getElem? (i := 4) rfl)
  have hiX3 : ∀ w ∈ wsX30, w ∈ wsX4_drift := by decide +kernel
  have k82 : (Cond.fieldLinkNest "WovenHistory" 82 "WovenHistory$Weave" "versions" "I" "WovenHistory").before _ s = true := va_Nw.use (A := ([.ref (h 0), .int a, .int b] : List Value).toArray) rfl (hN.1 ("WovenHistory", 82, "WovenHistory$Weave", "versions", "I") (List.mem_of_getElem? (i := 12) rfl))
  have k44 := hts (.fieldLink RX4 44 "WovenHistory" "lots" "LWovenHistory$Lots;") (List.mem_of_getElem? (i := 6) rfl)
  have hl := lv_entry ([.ref (h 0), .int a, .int b]) (n := 5) (Nat.le_of_ble_eq_true rfl)
  rw [lg_entry_eq]
  generalize (lg_sl ([.ref (h 0), .int a, .int b]) ++ List.replicate (5 - (lg_sl ([.ref (h 0), .int a, .int b])).length) Slot.unset).toArray = ls at hl ⊢
  have hl : lv_has ls 5 [(0, .ref (h 0)), (1, .int a), (2, .int b)] := hl
  refine lv_iload_n hx hb dX4_drift_0 rfl (lv_at hl 1 rfl) ?_
  refine lv_iconst (v := nI 1) hx hb dX4_drift_1 (by decide) ?_
  refine lv_icmp_lt (tgt := 22) hx hb dX4_drift_2 (by decide) (fun c2 => ?_) (fun c2 => ?_)
  · skip
    refine lv_ldc (v := (-1000000002 : Int32)) hx hb hown (hts (.constant RX4 56 (-1000000002)) (List.mem_of_getElem? (i := 2) rfl)) dX4_drift_22 ?_
    exact W.iret (v := (-1000000002 : Int32)) hx hb hr (fun t ht hW => ⟨⟨(-1000000002 : Int32), (x, wn, wa, w0, w1, rd, wr, z, jj, lt), rfl, ⟨_, _, _, _, _, _, _, _, _, _, rfl, ⟨nv, nl, hnv, by omega, hnl, by omega⟩, ⟨nva, nla, hnva, by omega, hnla, by omega⟩, ⟨nv0, nl0, hnv0, by omega, hnl0, by omega⟩, ⟨nv1, nl1, hnv1, by omega, hnl1, by omega⟩, rfl, rfl, rfl, rfl⟩, show PP G (xw G h x wn wa w0 w1 rd wr z jj lt) t.heap by rw [ht]; exact hP⟩, hS.F ht⟩) hS.2.2 dX4_drift_24
  · skip
    refine lv_iload_n hx hb dX4_drift_5 rfl (lv_at hl 1 rfl) ?_
    refine lv_bipush (v := nI 24) hx hb dX4_drift_6 (by decide) ?_
    refine lv_icmp_gt (tgt := 22) hx hb dX4_drift_8 (by decide) (fun c8 => ?_) (fun c8 => ?_)
    · skip
      refine lv_ldc (v := (-1000000002 : Int32)) hx hb hown (hts (.constant RX4 56 (-1000000002)) (List.mem_of_getElem? (i := 2) rfl)) dX4_drift_22 ?_
      exact W.iret (v := (-1000000002 : Int32)) hx hb hr (fun t ht hW => ⟨⟨(-1000000002 : Int32), (x, wn, wa, w0, w1, rd, wr, z, jj, lt), rfl, ⟨_, _, _, _, _, _, _, _, _, _, rfl, ⟨nv, nl, hnv, by omega, hnl, by omega⟩, ⟨nva, nla, hnva, by omega, hnla, by omega⟩, ⟨nv0, nl0, hnv0, by omega, hnl0, by omega⟩, ⟨nv1, nl1, hnv1, by omega, hnl1, by omega⟩, rfl, rfl, rfl, rfl⟩, show PP G (xw G h x wn wa w0 w1 rd wr z jj lt) t.heap by rw [ht]; exact hP⟩, hS.F ht⟩) hS.2.2 dX4_drift_24
    · skip
      obtain ⟨a1, ha1, rfl⟩ := dr_y c2 c8
      refine lv_iload_n hx hb dX4_drift_11 rfl (lv_at hl 2 rfl) ?_
      refine lv_iconst (v := nI 1) hx hb dX4_drift_12 (by decide) ?_
      refine lv_icmp_lt (tgt := 22) hx hb dX4_drift_13 (by decide) (fun c13 => ?_) (fun c13 => ?_)
      · skip
        refine lv_ldc (v := (-1000000002 : Int32)) hx hb hown (hts (.constant RX4 56 (-1000000002)) (List.mem_of_getElem? (i := 2) rfl)) dX4_drift_22 ?_
        exact W.iret (v := (-1000000002 : Int32)) hx hb hr (fun t ht hW => ⟨⟨(-1000000002 : Int32), (x, wn, wa, w0, w1, rd, wr, z, jj, lt), rfl, ⟨_, _, _, _, _, _, _, _, _, _, rfl, ⟨nv, nl, hnv, by omega, hnl, by omega⟩, ⟨nva, nla, hnva, by omega, hnla, by omega⟩, ⟨nv0, nl0, hnv0, by omega, hnl0, by omega⟩, ⟨nv1, nl1, hnv1, by omega, hnl1, by omega⟩, rfl, rfl, rfl, rfl⟩, show PP G (xw G h x wn wa w0 w1 rd wr z jj lt) t.heap by rw [ht]; exact hP⟩, hS.F ht⟩) hS.2.2 dX4_drift_24
      · skip
        refine lv_iload_n hx hb dX4_drift_16 rfl (lv_at hl 2 rfl) ?_
        refine lv_ldc (v := (999999 : Int32)) hx hb hown (hts (.constant RX4 186 (999999)) (List.mem_of_getElem? (i := 1) rfl)) dX4_drift_17 ?_
        refine lv_icmp_le (tgt := 25) hx hb dX4_drift_19 (by decide) (fun c19 => ?_) (fun c19 => ?_)
        · skip
          refine lv_aload_n hx hb dX4_drift_25 rfl (lv_at hl 0 rfl) ?_
          refine va_get (D := gD G) (ci := 4) (v := .int (x.1 7)) (C := RX4) (T := TX4) (N := 9) hx hb hts hiX4 hown hK hP 0 (xp_0 _ _ _ _ _ _ _ _ _ _ _ _) rfl 7 (by decide) k48 (fun _ h9 => h9) rfl dX4_drift_26 ?_
          refine lv_if_ne (tgt := 42) hx hb dX4_drift_29 (by decide) (fun c29 => ?_) (fun c29 => ?_)
          · skip
            refine lv_ldc (v := (-1000000003 : Int32)) hx hb hown (hts (.constant RX4 148 (-1000000003)) (List.mem_of_getElem? (i := 5) rfl)) dX4_drift_42 ?_
            exact W.iret (v := (-1000000003 : Int32)) hx hb hr (fun t ht hW => ⟨⟨(-1000000003 : Int32), (x, wn, wa, w0, w1, rd, wr, z, jj, lt), rfl, ⟨_, _, _, _, _, _, _, _, _, _, rfl, ⟨nv, nl, hnv, by omega, hnl, by omega⟩, ⟨nva, nla, hnva, by omega, hnla, by omega⟩, ⟨nv0, nl0, hnv0, by omega, hnl0, by omega⟩, ⟨nv1, nl1, hnv1, by omega, hnl1, by omega⟩, rfl, rfl, rfl, rfl⟩, show PP G (xw G h x wn wa w0 w1 rd wr z jj lt) t.heap by rw [ht]; exact hP⟩, hS.F ht⟩) hS.2.2 dX4_drift_44
          · skip
            refine lv_aload_n hx hb dX4_drift_32 rfl (lv_at hl 0 rfl) ?_
            refine va_get (D := gD G) (ci := 4) (v := .ref (h 10)) (C := RX4) (T := TX4) (N := 9) hx hb hts hiX4 hown hK hP 0 (xp_0 _ _ _ _ _ _ _ _ _ _ _ _) rfl 0 (by decide) k10 (fun _ h9 => h9) rfl dX4_drift_33 ?_
            refine va_getN (D := gD G) (ci := 3) (v := .int (wn.1 0)) (C := RX3) (T := TX3) (N := 9) hx hb hts hiX3 hown hK hP 3 (xp_3 _ _ _ _ _ _ _ _ _ _ _ _) rfl 0 (by decide) k82 (fun _ h9 => h9) rfl dX4_drift_36 ?_
            refine topE hnv ?_
            refine lv_if_ne (tgt := 45) hx hb dX4_drift_39 (by decide) (fun c39 => ?_) (fun c39 => ?_)
            · skip
              have n39 : ¬ (nv = 0) := fun q9 => c39 ((nI_eq (a := nv) (b := 0) (by omega) (by omega)).mpr q9)
              refine lv_aload_n hx hb dX4_drift_45 rfl (lv_at hl 0 rfl) ?_
              refine va_get (D := gD G) (ci := 4) (v := .ref (h 80)) (C := RX4) (T := TX4) (N := 9) hx hb hts hiX4 hown hK hP 0 (xp_0 _ _ _ _ _ _ _ _ _ _ _ _) rfl 6 (by decide) k44 (fun _ h9 => h9) rfl dX4_drift_46 ?_
              refine lv_iload_n hx hb dX4_drift_49 rfl (lv_at hl 2 rfl) ?_
              refine cWv (As := [.int b]) (rest := []) (S := Int64) (wa := xw G h x wn wa w0 w1 rd wr z jj lt) (wc := tv G (fun k => h (80 + k)) lt) (w1 := fun v => tv G (fun k => h (80 + k)) v) (wa' := fun v => xw G h x wn wa w0 w1 rd wr z jj v) ⟨hx, hb, hml, hown, hts⟩ (mt_X0_start l G (fun k => h (80 + k)) _ lt b) (cwV 1 hts gX4_drift_X0_start rfl rfl rfl (by decide +kernel) ⟨Nat.le_of_ble_eq_true rfl, Nat.le_of_ble_eq_true rfl⟩) hK hN hP hD hS hA [54] (xc_t _ _ _ _ _ _ _ _ _ _ _ _) (by decide) (xf_t _ _ _ _ _ _ _ _ _ _ _ _) (fun _ => rfl) (fun v => xo_t _ _ _ _ _ _ _ _ _ _ _ _ v) (fun v => xm_t _ _ _ _ _ _ _ _ _ _ _ _ v) 0 0 rfl rfl rfl hl.1 rfl (Nat.le_of_ble_eq_true rfl) ⟨Nat.zero_le _, Nat.zero_le _⟩ dX4_drift_50 (fun u50 H locs hw50 hP hD hS => ?_)
              have hP : PP G (xw G h x wn wa w0 w1 rd wr z jj u50) H := hP
              have hD : va_D A (xw G h x wn wa w0 w1 rd wr z jj u50) := hD
              refine lv_iconst (v := nI 1) hx hb dX4_drift_53 (by decide) ?_
              refine lv_istore_n (lv' := [(3, .int (nI 1)), (0, .ref (h 0)), (1, .int (nI a1)), (2, .int b)]) hx hb dX4_drift_54 rfl hl (by decide) rfl (fun ls hl => ?_)
              refine lv_iconst (v := nI 0) hx hb dX4_drift_55 (by decide) ?_
              refine lv_istore (lv' := [(4, .int (nI 0)), (3, .int (nI 1)), (0, .ref (h 0)), (1, .int (nI a1)), (2, .int b)]) hx hb dX4_drift_56 hl (by decide) rfl (fun ls hl => ?_)
              have LP58 : ∀ (n58m : Nat), ∀ (k : Nat) (x1 : Int32) (pw : oS) (y : Int64) (n : Nat) (mq : Nat) (hk : k ≤ a1) (en : pw.1 0 = nI n) (hn : n ≤ 24) (em : pw.1 5 = nI mq) (hm : mq ≤ 120) (hx01 : x1 = 0 ∨ x1 = 1), (a1 - k < n58m) → ∀ (H : Heap) (locs : List Loc) (ls : Array Slot), PP G (xw G h x pw wa w0 w1 rd wr z jj y) H → va_D A (xw G h x pw wa w0 w1 rd wr z jj y) → va_S A s.heap H locs → lv_has ls 5 [(0, .ref (h 0)), (1, .int (nI a1)), (3, .int x1), (4, .int (nI k))] → W p l e (headSpec wsX4_drift ({ frames := 6, cells := 0, slots := 0, locals := 141 })).room s m ([.ref (h 0), .int (nI a1), .int b] : List Value).toArray below meth c H locs 0 0 (MQ below (va_Qi (fun (r : Int32) (v : oS × oS × oS × oS × oS × oS × oS × oS × (Nat → Nat → Int64) × Int64) => XQ x rd z v) (fun v t => PP G (xw G h v.1 v.2.1 v.2.2.1 v.2.2.2.1 v.2.2.2.2.1 v.2.2.2.2.2.1 v.2.2.2.2.2.2.1 v.2.2.2.2.2.2.2.1 v.2.2.2.2.2.2.2.2.1 v.2.2.2.2.2.2.2.2.2) t.heap) A) ([.ref (h 0), .int (nI a1), .int b] : List Value).toArray s 0 0 A) (F0 m 58 ls []) := by
                intro n58m
                induction n58m with
                | zero => intro k x1 pw y n mq hk en hn em hm hx01 hmu H locs ls hP hD hS hl; exact absurd hmu (Nat.not_lt_zero _)
                | succ n58m ih58 =>
                  intro k x1 pw y n mq hk en hn em hm hx01 hmu H locs ls hP hD hS hl
                  refine lv_iload hx hb dX4_drift_58 (lv_at hl 3 rfl) ?_
                  refine lv_iload_n hx hb dX4_drift_60 rfl (lv_at hl 1 rfl) ?_
                  refine lv_icmp_ge (tgt := 79) hx hb dX4_drift_61 (by decide) (fun c61 => ?_) (fun c61 => ?_)
                  · skip
                    have n61 : a1 ≤ k := (nI_leI (a := a1) (b := k) (by omega) (by omega)).mp c61
                    refine lv_aload_n hx hb dX4_drift_79 rfl (lv_at hl 0 rfl) ?_
                    refine va_get (D := gD G) (ci := 4) (v := .ref (h 10)) (C := RX4) (T := TX4) (N := 9) hx hb hts hiX4 hown hK hP 0 (xp_0 _ _ _ _ _ _ _ _ _ _ _ _) rfl 0 (by decide) k10 (fun _ h9 => h9) rfl dX4_drift_80 ?_
                    refine va_getN (D := gD G) (ci := 3) (v := .int (pw.1 0)) (C := RX3) (T := TX3) (N := 9) hx hb hts hiX3 hown hK hP 3 (xp_3 _ _ _ _ _ _ _ _ _ _ _ _) rfl 0 (by decide) k82 (fun _ h9 => h9) rfl dX4_drift_83 ?_
                    refine topE en ?_
                    exact W.iret (v := nI n) hx hb hr (fun t ht hW => ⟨⟨nI n, (x, pw, wa, w0, w1, rd, wr, z, jj, y), rfl, ⟨_, _, _, _, _, _, _, _, _, _, rfl, ⟨n, mq, en, by omega, em, by omega⟩, ⟨nva, nla, hnva, by omega, hnla, by omega⟩, ⟨nv0, nl0, hnv0, by omega, hnl0, by omega⟩, ⟨nv1, nl1, hnv1, by omega, hnl1, by omega⟩, rfl, rfl, rfl, rfl⟩, show PP G (xw G h x pw wa w0 w1 rd wr z jj y) t.heap by rw [ht]; exact hP⟩, hS.F ht⟩) hS.2.2 dX4_drift_86
                  · skip
                    have n61 : ¬ (a1 ≤ k) := fun q9 => c61 ((nI_leI (a := a1) (b := k) (by omega) (by omega)).mpr q9)
                    refine lv_iload_n hx hb dX4_drift_64 rfl (lv_at hl 2 rfl) ?_
                    refine lv_if_eq (tgt := 79) hx hb dX4_drift_65 (by decide) (fun c65 => ?_) (fun c65 => ?_)
                    · skip
                      refine lv_aload_n hx hb dX4_drift_79 rfl (lv_at hl 0 rfl) ?_
                      refine va_get (D := gD G) (ci := 4) (v := .ref (h 10)) (C := RX4) (T := TX4) (N := 9) hx hb hts hiX4 hown hK hP 0 (xp_0 _ _ _ _ _ _ _ _ _ _ _ _) rfl 0 (by decide) k10 (fun _ h9 => h9) rfl dX4_drift_80 ?_
                      refine va_getN (D := gD G) (ci := 3) (v := .int (pw.1 0)) (C := RX3) (T := TX3) (N := 9) hx hb hts hiX3 hown hK hP 3 (xp_3 _ _ _ _ _ _ _ _ _ _ _ _) rfl 0 (by decide) k82 (fun _ h9 => h9) rfl dX4_drift_83 ?_
                      refine topE en ?_
                      exact W.iret (v := nI n) hx hb hr (fun t ht hW => ⟨⟨nI n, (x, pw, wa, w0, w1, rd, wr, z, jj, y), rfl, ⟨_, _, _, _, _, _, _, _, _, _, rfl, ⟨n, mq, en, by omega, em, by omega⟩, ⟨nva, nla, hnva, by omega, hnla, by omega⟩, ⟨nv0, nl0, hnv0, by omega, hnl0, by omega⟩, ⟨nv1, nl1, hnv1, by omega, hnl1, by omega⟩, rfl, rfl, rfl, rfl⟩, show PP G (xw G h x pw wa w0 w1 rd wr z jj y) t.heap by rw [ht]; exact hP⟩, hS.F ht⟩) hS.2.2 dX4_drift_86
                    · skip
                      refine lv_aload_n hx hb dX4_drift_68 rfl (lv_at hl 0 rfl) ?_
                      refine cXi (As := []) (rest := []) (S := oS × oS × oS × oS × oS × oS × oS × oS × (Nat → Nat → Int64) × Int64) (wa := xw G h x pw wa w0 w1 rd wr z jj y) (w1 := fun v => xw G h v.1 v.2.1 v.2.2.1 v.2.2.2.1 v.2.2.2.2.1 v.2.2.2.2.2.1 v.2.2.2.2.2.2.1 v.2.2.2.2.2.2.2.1 v.2.2.2.2.2.2.2.2.1 v.2.2.2.2.2.2.2.2.2) ⟨hx, hb, hml, hown, hts⟩ (mt_X4_driftOneVersion l G h _ x pw wa w0 w1 rd wr z jj y n mq (en) (em) (by first | assumption | omega) (by first | assumption | omega)) (cwV 0 hts gX4_drift_X4_driftOneVersion rfl rfl rfl (by decide +kernel) ⟨Nat.le_of_ble_eq_true rfl, Nat.le_of_ble_eq_true rfl⟩) hK hN hP hD hS hA (fun v => xm_x _ _ _ _ _ _ _ _ _ _ _ _ v) 0 4 rfl rfl rfl hl.1 rfl (Nat.le_of_ble_eq_true rfl) ⟨Nat.zero_le _, Nat.zero_le _⟩ dX4_drift_69 (fun r69 u69 H locs hw69 hP hD hS => ?_)
                      obtain ⟨p69, y69, n69, m69, rfl, en69, hn69, em69, hm69, hz69⟩ := hw69
                      have hP : PP G (xw G h x p69 wa w0 w1 rd wr z jj y69) H := hP
                      have hD : va_D A (xw G h x p69 wa w0 w1 rd wr z jj y69) := hD
                      refine lv_istore_n (lv' := [(3, .int r69), (0, .ref (h 0)), (1, .int (nI a1)), (4, .int (nI k))]) hx hb dX4_drift_72 rfl hl (by decide) rfl (fun ls hl => ?_)
                      refine lv_iinc (v := nI (k + 1)) (lv' := [(4, .int (nI (k + 1))), (3, .int r69), (0, .ref (h 0)), (1, .int (nI a1))]) hx hb dX4_drift_73 hl (k := 3) rfl (nI_1 k) (by decide) rfl (fun ls hl => ?_)
                      refine lv_goto (tgt := 58) hx hb dX4_drift_76 (by decide) ?_
                      exact ih58 (k + 1) r69 p69 y69 n69 m69 (by first | assumption | omega) (en69) (by first | assumption | omega) (em69) (by first | assumption | omega) (by first | exact Or.inl rfl | exact Or.inr rfl | assumption) (by omega) _ _ ls hP hD hS (lv_sub hl [2, 3, 1, 0] rfl)
              exact LP58 (a1 - 0 + 1) 0 (nI 1) wn u50 nv nl (by first | assumption | omega) (hnv) (by first | assumption | omega) (hnl) (by first | assumption | omega) (by first | exact Or.inl rfl | exact Or.inr rfl | assumption) (Nat.lt_succ_self _) _ _ ls hP hD hS (lv_sub hl [2, 3, 1, 0] rfl)
            · skip
              have n39 : nv = 0 := (nI_eq (a := nv) (b := 0) (by omega) (by omega)).mp c39
              refine lv_ldc (v := (-1000000003 : Int32)) hx hb hown (hts (.constant RX4 148 (-1000000003)) (List.mem_of_getElem? (i := 5) rfl)) dX4_drift_42 ?_
              exact W.iret (v := (-1000000003 : Int32)) hx hb hr (fun t ht hW => ⟨⟨(-1000000003 : Int32), (x, wn, wa, w0, w1, rd, wr, z, jj, lt), rfl, ⟨_, _, _, _, _, _, _, _, _, _, rfl, ⟨nv, nl, hnv, by omega, hnl, by omega⟩, ⟨nva, nla, hnva, by omega, hnla, by omega⟩, ⟨nv0, nl0, hnv0, by omega, hnl0, by omega⟩, ⟨nv1, nl1, hnv1, by omega, hnl1, by omega⟩, rfl, rfl, rfl, rfl⟩, show PP G (xw G h x wn wa w0 w1 rd wr z jj lt) t.heap by rw [ht]; exact hP⟩, hS.F ht⟩) hS.2.2 dX4_drift_44
        · skip
          refine lv_ldc (v := (-1000000002 : Int32)) hx hb hown (hts (.constant RX4 56 (-1000000002)) (List.mem_of_getElem? (i := 2) rfl)) dX4_drift_22 ?_
          exact W.iret (v := (-1000000002 : Int32)) hx hb hr (fun t ht hW => ⟨⟨(-1000000002 : Int32), (x, wn, wa, w0, w1, rd, wr, z, jj, lt), rfl, ⟨_, _, _, _, _, _, _, _, _, _, rfl, ⟨nv, nl, hnv, by omega, hnl, by omega⟩, ⟨nva, nla, hnva, by omega, hnla, by omega⟩, ⟨nv0, nl0, hnv0, by omega, hnl0, by omega⟩, ⟨nv1, nl1, hnv1, by omega, hnl1, by omega⟩, rfl, rfl, rfl, rfl⟩, show PP G (xw G h x wn wa w0 w1 rd wr z jj lt) t.heap by rw [ht]; exact hP⟩, hS.F ht⟩) hS.2.2 dX4_drift_24
set_option maxHeartbeats 1000000 in
set_option maxRecDepth 100000 in
theorem mt_X4_sheet (l : Launch) (G : gG) (h : Nat → Nat) (sz : Nat) (x : oS) (wn : oS) (wa : oS) (w0 : oS) (w1 : oS) (rd : oS) (wr : oS) (z : oS) (jj : Nat → Nat → Int64) (lt : Int64) (nv : Nat) (nl : Nat) (nva : Nat) (nla : Nat) (nv0 : Nat) (nl0 : Nat) (nv1 : Nat) (nl1 : Nat) (len : Nat) (s1 : Int32) (n1 : Int32) (hnv : wn.1 0 = nI nv) (hnl : wn.1 5 = nI nl) (hnva : wa.1 0 = nI nva) (hnla : wa.1 5 = nI nla) (hnv0 : w0.1 0 = nI nv0) (hnl0 : w0.1 5 = nI nl0) (hnv1 : w1.1 0 = nI nv1) (hnl1 : w1.1 5 = nI nl1) (hlen : rd.1 1 = nI len) (hnv24 : nv ≤ 24) (hnl120 : nl ≤ 120) (hva24 : nva ≤ 24) (hla120 : nla ≤ 120) (hv024 : nv0 ≤ 24) (hl0120 : nl0 ≤ 120) (hv124 : nv1 ≤ 24) (hl1120 : nl1 ≤ 120) (hl240 : len ≤ 240) (hsz : ∀ j, j < 4 → z.2 1 j = -1 ∨ ∃ q, q ≤ 40 ∧ z.2 1 j = nI q) : Met l yX4_sheet wsX4_sheet ({ frames := 1, cells := 0, slots := 0, locals := 23 }) (preW G (xw G h x wn wa w0 w1 rd wr z jj lt) sz [.ref (h 0), .int s1, .int n1]) (va_Qi (fun (r : Int32) (v : oS × oS × oS × oS × oS × oS × oS × oS × (Nat → Nat → Int64) × Int64) => (r = -1000000001 ∧ XQ x rd z v ∧ ∀ j, j < 4 → s1 ≠ nI j) ∨ (r = -1000000002 ∧ XQ x rd z v ∧ (∃ j, j < 4 ∧ s1 = nI j) ∧ ∀ j, j ≤ 40 → n1 ≠ nI j) ∨ (∃ j q, j < 4 ∧ s1 = nI j ∧ q ≤ 40 ∧ n1 = nI q ∧ r = nI q ∧ XQ x rd (oA z 1 (upd (z.2 1) j (nI q))) v)) (fun v t => PP G (xw G h v.1 v.2.1 v.2.2.1 v.2.2.2.1 v.2.2.2.2.1 v.2.2.2.2.2.1 v.2.2.2.2.2.2.1 v.2.2.2.2.2.2.2.1 v.2.2.2.2.2.2.2.2.1 v.2.2.2.2.2.2.2.2.2) t.heap) (va_A (xw G h x wn wa w0 w1 rd wr z jj lt) sz)) 0 0 (va_A (xw G h x wn wa w0 w1 rd wr z jj lt) sz) := by
  refine Met.ofW (cc := cX4_sheet) (maxL := 3) (ret := (some .int)) (by decide) rfl ?_
  intro p e s m args below meth c s₁ B hml hv
  obtain ⟨ha, hsz, hP, hK, hN, hD0⟩ := hv
  subst ha
  have hx := B.exec
  have hb := B.bytes
  have hr := B.returns
  have hts := atoms_spec (ws := wsX4_sheet) B.pre
  have hown : s.vm.findClass RX4 = some m.cls := findClass_of_methodNamed B.named
  have hlocks := B.notSynchronized
  subst hsz
  have hD := hD0.self (sz := s.heap.size)
  generalize hAe : va_A (xw G h x wn wa w0 w1 rd wr z jj lt) s.heap.size = A at hD ⊢
  have hA : ∀ q : Nat, s.heap.size ≤ q → A q := fun q h => by rw [← hAe]; exact Or.inr h
  clear hAe hD0
  have hS : va_S A s.heap s.heap [] := va_S.rf
  have hiX4 : ∀ w ∈ wsX40, w ∈ wsX4_sheet := by decide +kernel
  have k37 := hts (.fieldLink RX4 37 "WovenHistory" "sheets" "LWovenHistory$Sheets;") (List.mem_of_getElem? (i := 1) rfl)
  have hl := lv_entry ([.ref (h 0), .int s1, .int n1]) (n := 3) (Nat.le_of_ble_eq_true rfl)
  rw [lg_entry_eq]
  generalize (lg_sl ([.ref (h 0), .int s1, .int n1]) ++ List.replicate (3 - (lg_sl ([.ref (h 0), .int s1, .int n1])).length) Slot.unset).toArray = ls at hl ⊢
  have hl : lv_has ls 3 [(0, .ref (h 0)), (1, .int s1), (2, .int n1)] := hl
  refine lv_aload_n hx hb dX4_sheet_0 rfl (lv_at hl 0 rfl) ?_
  refine va_get (D := gD G) (ci := 4) (v := .ref (h 70)) (C := RX4) (T := TX4) (N := 9) hx hb hts hiX4 hown hK hP 0 (xp_0 _ _ _ _ _ _ _ _ _ _ _ _) rfl 5 (by decide) k37 (fun _ h9 => h9) rfl dX4_sheet_1 ?_
  refine lv_iload_n hx hb dX4_sheet_4 rfl (lv_at hl 1 rfl) ?_
  refine cRi (w := sv G (fun k => h (70 + k)) z jj) (As := [.int s1]) (rest := []) ⟨hx, hb, hml, hown, hts⟩ (mt_X2_hasNumber l G (fun k => h (70 + k)) z jj s1) (cwV 1 hts gX4_sheet_X2_hasNumber rfl rfl rfl (by decide +kernel) ⟨Nat.le_of_ble_eq_true rfl, Nat.le_of_ble_eq_true rfl⟩) hK hN (hP.sub [47, 48, 49, 50, 51, 52, 53] (xf_z _ _ _ _ _ _ _ _ _ _ _ _)) 0 2 rfl rfl rfl hl.1 rfl (Nat.le_of_ble_eq_true rfl) ⟨Nat.zero_le _, Nat.zero_le _⟩ dX4_sheet_5 (fun r5 hw5 => ?_)
  rcases hw5 with ⟨rfl, j5, hj5, rfl⟩ | ⟨rfl, hn5⟩
  · skip
    refine lv_if_ne (tgt := 14) hx hb dX4_sheet_8 (by decide) (fun _ => ?_) (fun c9 => absurd c9 (by decide))
    refine lv_iload_n hx hb dX4_sheet_14 rfl (lv_at hl 2 rfl) ?_
    refine lv_if_lt (tgt := 24) hx hb dX4_sheet_15 (by decide) (fun c15 => ?_) (fun c15 => ?_)
    · skip
      refine lv_ldc (v := (-1000000002 : Int32)) hx hb hown (hts (.constant RX4 56 (-1000000002)) (List.mem_of_getElem? (i := 3) rfl)) dX4_sheet_24 ?_
      exact W.iret (v := (-1000000002 : Int32)) hx hb hr (fun t ht hW => ⟨⟨(-1000000002 : Int32), (x, wn, wa, w0, w1, rd, wr, z, jj, lt), rfl, Or.inr (Or.inl ⟨rfl, ⟨_, _, _, _, _, _, _, _, _, _, rfl, ⟨nv, nl, hnv, by omega, hnl, by omega⟩, ⟨nva, nla, hnva, by omega, hnla, by omega⟩, ⟨nv0, nl0, hnv0, by omega, hnl0, by omega⟩, ⟨nv1, nl1, hnv1, by omega, hnl1, by omega⟩, rfl, rfl, rfl, rfl⟩, ⟨j5, hj5, rfl⟩, by first | exact le_n1 (by omega) (by assumption) | exact le_n2 (by omega) (by assumption)⟩), show PP G (xw G h x wn wa w0 w1 rd wr z jj lt) t.heap by rw [ht]; exact hP⟩, hS.F ht⟩) hS.2.2 dX4_sheet_26
    · skip
      refine lv_iload_n hx hb dX4_sheet_18 rfl (lv_at hl 2 rfl) ?_
      refine lv_bipush (v := nI 40) hx hb dX4_sheet_19 (by decide) ?_
      refine lv_icmp_le (tgt := 27) hx hb dX4_sheet_21 (by decide) (fun c21 => ?_) (fun c21 => ?_)
      · skip
        obtain ⟨q1, hq1, rfl⟩ := le_y (n := 40) (by omega) c15 c21
        refine lv_aload_n hx hb dX4_sheet_27 rfl (lv_at hl 0 rfl) ?_
        refine va_get (D := gD G) (ci := 4) (v := .ref (h 70)) (C := RX4) (T := TX4) (N := 9) hx hb hts hiX4 hown hK hP 0 (xp_0 _ _ _ _ _ _ _ _ _ _ _ _) rfl 5 (by decide) k37 (fun _ h9 => h9) rfl dX4_sheet_28 ?_
        refine lv_iload_n hx hb dX4_sheet_31 rfl (lv_at hl 1 rfl) ?_
        refine lv_iload_n hx hb dX4_sheet_32 rfl (lv_at hl 2 rfl) ?_
        refine cWv (As := [.int (nI j5), .int (nI q1)]) (rest := []) (S := oS × (Nat → Nat → Int64)) (wa := xw G h x wn wa w0 w1 rd wr z jj lt) (wc := sv G (fun k => h (70 + k)) z jj) (w1 := fun v => sv G (fun k => h (70 + k)) v.1 v.2) (wa' := fun v => xw G h x wn wa w0 w1 rd wr v.1 v.2 lt) ⟨hx, hb, hml, hown, hts⟩ (mt_X2_lay l G (fun k => h (70 + k)) _ z jj j5 (nI q1) (by first | assumption | omega)) (cwV 2 hts gX4_sheet_X2_lay rfl rfl rfl (by decide +kernel) ⟨Nat.le_of_ble_eq_true rfl, Nat.le_of_ble_eq_true rfl⟩) hK hN hP hD hS hA [47, 48, 49, 50, 51, 52, 53] (xc_z _ _ _ _ _ _ _ _ _ _ _ _) (by decide) (xf_z _ _ _ _ _ _ _ _ _ _ _ _) (fun _ => rfl) (fun v => xo_z _ _ _ _ _ _ _ _ _ _ _ _ v) (fun v => xm_z _ _ _ _ _ _ _ _ _ _ _ _ v) 0 2 rfl rfl rfl hl.1 rfl (Nat.le_of_ble_eq_true rfl) ⟨Nat.zero_le _, Nat.zero_le _⟩ dX4_sheet_33 (fun u33 H locs hw33 hP hD hS => ?_)
        obtain ⟨jj33, rfl⟩ := hw33
        have hP : PP G (xw G h x wn wa w0 w1 rd wr (oA z 1 (upd (z.2 1) j5 (nI q1))) jj33 lt) H := hP
        have hD : va_D A (xw G h x wn wa w0 w1 rd wr (oA z 1 (upd (z.2 1) j5 (nI q1))) jj33 lt) := hD
        refine lv_iload_n hx hb dX4_sheet_36 rfl (lv_at hl 2 rfl) ?_
        exact W.iret (v := nI q1) hx hb hr (fun t ht hW => ⟨⟨nI q1, (x, wn, wa, w0, w1, rd, wr, oA z 1 (upd (z.2 1) j5 (nI q1)), jj33, lt), rfl, Or.inr (Or.inr ⟨j5, q1, hj5, rfl, hq1, rfl, rfl, ⟨_, _, _, _, _, _, _, _, _, _, rfl, ⟨nv, nl, hnv, by omega, hnl, by omega⟩, ⟨nva, nla, hnva, by omega, hnla, by omega⟩, ⟨nv0, nl0, hnv0, by omega, hnl0, by omega⟩, ⟨nv1, nl1, hnv1, by omega, hnl1, by omega⟩, rfl, rfl, rfl, rfl⟩⟩), show PP G (xw G h x wn wa w0 w1 rd wr (oA z 1 (upd (z.2 1) j5 (nI q1))) jj33 lt) t.heap by rw [ht]; exact hP⟩, hS.F ht⟩) hS.2.2 dX4_sheet_37
      · skip
        refine lv_ldc (v := (-1000000002 : Int32)) hx hb hown (hts (.constant RX4 56 (-1000000002)) (List.mem_of_getElem? (i := 3) rfl)) dX4_sheet_24 ?_
        exact W.iret (v := (-1000000002 : Int32)) hx hb hr (fun t ht hW => ⟨⟨(-1000000002 : Int32), (x, wn, wa, w0, w1, rd, wr, z, jj, lt), rfl, Or.inr (Or.inl ⟨rfl, ⟨_, _, _, _, _, _, _, _, _, _, rfl, ⟨nv, nl, hnv, by omega, hnl, by omega⟩, ⟨nva, nla, hnva, by omega, hnla, by omega⟩, ⟨nv0, nl0, hnv0, by omega, hnl0, by omega⟩, ⟨nv1, nl1, hnv1, by omega, hnl1, by omega⟩, rfl, rfl, rfl, rfl⟩, ⟨j5, hj5, rfl⟩, by first | exact le_n1 (by omega) (by assumption) | exact le_n2 (by omega) (by assumption)⟩), show PP G (xw G h x wn wa w0 w1 rd wr z jj lt) t.heap by rw [ht]; exact hP⟩, hS.F ht⟩) hS.2.2 dX4_sheet_26
  · skip
    refine lv_if_ne (tgt := 14) hx hb dX4_sheet_8 (by decide) (fun c9 => absurd (by decide) c9) (fun _ => ?_)
    refine lv_ldc (v := (-1000000001 : Int32)) hx hb hown (hts (.constant RX4 110 (-1000000001)) (List.mem_of_getElem? (i := 2) rfl)) dX4_sheet_11 ?_
    exact W.iret (v := (-1000000001 : Int32)) hx hb hr (fun t ht hW => ⟨⟨(-1000000001 : Int32), (x, wn, wa, w0, w1, rd, wr, z, jj, lt), rfl, Or.inl ⟨rfl, ⟨_, _, _, _, _, _, _, _, _, _, rfl, ⟨nv, nl, hnv, by omega, hnl, by omega⟩, ⟨nva, nla, hnva, by omega, hnla, by omega⟩, ⟨nv0, nl0, hnv0, by omega, hnl0, by omega⟩, ⟨nv1, nl1, hnv1, by omega, hnl1, by omega⟩, rfl, rfl, rfl, rfl⟩, hn5⟩, show PP G (xw G h x wn wa w0 w1 rd wr z jj lt) t.heap by rw [ht]; exact hP⟩, hS.F ht⟩) hS.2.2 dX4_sheet_13
