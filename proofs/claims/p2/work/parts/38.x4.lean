set_option maxHeartbeats 1000000 in
set_option maxRecDepth 100000 in
theorem mt_X4_set (l : Launch) (G : gG) (h : Nat → Nat) (sz : Nat) (x : oS) (wn : oS) (wa : oS) (w0 : oS) (w1 : oS) (rd : oS) (wr : oS) (z : oS) (jj : Nat → Nat → Int64) (lt : Int64) (nv : Nat) (nl : Nat) (nva : Nat) (nla : Nat) (nv0 : Nat) (nl0 : Nat) (nv1 : Nat) (nl1 : Nat) (len : Nat) (s1 : Int32) (i1 : Int32) (xx : Int64) (hnv : wn.1 0 = nI nv) (hnl : wn.1 5 = nI nl) (hnva : wa.1 0 = nI nva) (hnla : wa.1 5 = nI nla) (hnv0 : w0.1 0 = nI nv0) (hnl0 : w0.1 5 = nI nl0) (hnv1 : w1.1 0 = nI nv1) (hnl1 : w1.1 5 = nI nl1) (hlen : rd.1 1 = nI len) (hnv24 : nv ≤ 24) (hnl120 : nl ≤ 120) (hva24 : nva ≤ 24) (hla120 : nla ≤ 120) (hv024 : nv0 ≤ 24) (hl0120 : nl0 ≤ 120) (hv124 : nv1 ≤ 24) (hl1120 : nl1 ≤ 120) (hl240 : len ≤ 240) (hsz : ∀ j, j < 4 → z.2 1 j = -1 ∨ ∃ q, q ≤ 40 ∧ z.2 1 j = nI q) : Met l yX4_set wsX4_set ({ frames := 2, cells := 0, slots := 0, locals := 44 }) (preW G (xw G h x wn wa w0 w1 rd wr z jj lt) sz [.ref (h 0), .int s1, .int i1, .long xx]) (va_Ql (fun (r : Int64) (v : oS × oS × oS × oS × oS × oS × oS × oS × (Nat → Nat → Int64) × Int64) => XQ x rd z v) (fun v t => PP G (xw G h v.1 v.2.1 v.2.2.1 v.2.2.2.1 v.2.2.2.2.1 v.2.2.2.2.2.1 v.2.2.2.2.2.2.1 v.2.2.2.2.2.2.2.1 v.2.2.2.2.2.2.2.2.1 v.2.2.2.2.2.2.2.2.2) t.heap) (va_A (xw G h x wn wa w0 w1 rd wr z jj lt) sz)) 0 0 (va_A (xw G h x wn wa w0 w1 rd wr z jj lt) sz) := by
  refine Met.ofW (cc := cX4_set) (maxL := 8) (ret := (some .long)) (by decide) rfl ?_
  intro p e s m args below meth c s₁ B hml hv
  obtain ⟨ha, hsz, hP, hK, hN, hD0⟩ := hv
  subst ha
  have hx := B.exec
  have hb := B.bytes
  have hr := B.returns
  have hts := atoms_spec (ws := wsX4_set) B.pre
  have hown : s.vm.findClass RX4 = some m.cls := findClass_of_methodNamed B.named
  have hlocks := B.notSynchronized
  subst hsz
  have hD := hD0.self (sz := s.heap.size)
  generalize hAe : va_A (xw G h x wn wa w0 w1 rd wr z jj lt) s.heap.size = A at hD ⊢
  have hA : ∀ q : Nat, s.heap.size ≤ q → A q := fun q h => by rw [← hAe]; exact Or.inr h
  clear hAe hD0
  have hS : va_S A s.heap s.heap [] := va_S.rf
  have hiX4 : ∀ w ∈ wsX40, w ∈ wsX4_set := by decide +kernel
  have k37 := hts (.fieldLink RX4 37 "WovenHistory" "sheets" "LWovenHistory$Sheets;") (List.mem_of_getElem? (i := 1) rfl)
  have hiX2 : ∀ w ∈ wsX20, w ∈ wsX4_set := by decide +kernel
  have k229 : (Cond.fieldLinkNest "WovenHistory" 229 "WovenHistory$Sheets" "numbers" "[[J" "WovenHistory").before _ s = true := va_Nw.use (A := ([.ref (h 0), .int s1, .int i1, .long xx] : List Value).toArray) rfl (hN.1 ("WovenHistory", 229, "WovenHistory$Sheets", "numbers", "[[J") (List.mem_of_getElem? (i := 7) rfl))
  have hl := lv_entry ([.ref (h 0), .int s1, .int i1, .long xx]) (n := 8) (Nat.le_of_ble_eq_true rfl)
  rw [lg_entry_eq]
  generalize (lg_sl ([.ref (h 0), .int s1, .int i1, .long xx]) ++ List.replicate (8 - (lg_sl ([.ref (h 0), .int s1, .int i1, .long xx])).length) Slot.unset).toArray = ls at hl ⊢
  have hl : lv_has ls 8 [(0, .ref (h 0)), (1, .int s1), (2, .int i1), (3, .long xx)] := hl
  refine lv_aload_n hx hb dX4_set_0 rfl (lv_at hl 0 rfl) ?_
  refine va_get (D := gD G) (ci := 4) (v := .ref (h 70)) (C := RX4) (T := TX4) (N := 9) hx hb hts hiX4 hown hK hP 0 (xp_0 _ _ _ _ _ _ _ _ _ _ _ _) rfl 5 (by decide) k37 (fun _ h9 => h9) rfl dX4_set_1 ?_
  refine lv_iload_n hx hb dX4_set_4 rfl (lv_at hl 1 rfl) ?_
  refine lv_iload_n hx hb dX4_set_5 rfl (lv_at hl 2 rfl) ?_
  refine lv_iconst (v := nI 1) hx hb dX4_set_6 (by decide) ?_
  refine cRi (w := sv G (fun k => h (70 + k)) z jj) (As := [.int s1, .int i1, .int (nI 1)]) (rest := []) ⟨hx, hb, hml, hown, hts⟩ (mt_X2_findWrong l G (fun k => h (70 + k)) z jj s1 i1 (nI 1) (by first | assumption | omega)) (cwV 3 hts gX4_set_X2_findWrong rfl rfl rfl (by decide +kernel) ⟨Nat.le_of_ble_eq_true rfl, Nat.le_of_ble_eq_true rfl⟩) hK hN (hP.sub [47, 48, 49, 50, 51, 52, 53] (xf_z _ _ _ _ _ _ _ _ _ _ _ _)) 0 2 rfl rfl rfl hl.1 rfl (Nat.le_of_ble_eq_true rfl) ⟨Nat.zero_le _, Nat.zero_le _⟩ dX4_set_7 (fun r7 hw7 => ?_)
  rcases hw7 with ⟨rfl, js7, ji7, nn7, q7, hjs7, rfl, hq7, eq7, rfl, enn7, hs7⟩ | ⟨rfl, hnu7⟩ | ⟨rfl, js7, hjs7, ejs7, eq7⟩ | ⟨rfl, js7, q7, hjs7, ejs7, hq7, eq7, hpl7⟩
  · skip
    refine lv_istore (lv' := [(5, .int (0 : Int32)), (0, .ref (h 0)), (1, .int (nI js7)), (2, .int (nI ji7)), (3, .long xx)]) hx hb dX4_set_10 hl (by decide) rfl (fun ls hl => ?_)
    refine lv_iload hx hb dX4_set_12 (lv_at hl 0 rfl) ?_
    refine lv_if_eq (tgt := 21) hx hb dX4_set_14 (by decide) (fun _ => ?_) (fun c9 => absurd (by decide) c9)
    have hnn : 1 = nn7 := (nI_eq (a := 1) (b := nn7) (by omega) (by omega)).mp enn7
    rcases (show js7 = 0 ∨ js7 = 1 ∨ js7 = 2 ∨ js7 = 3 by omega) with rfl | rfl | rfl | rfl
    · skip
      refine lv_aload_n hx hb dX4_set_21 rfl (lv_at hl 1 rfl) ?_
      refine va_get (D := gD G) (ci := 4) (v := .ref (h 70)) (C := RX4) (T := TX4) (N := 9) hx hb hts hiX4 hown hK hP 0 (xp_0 _ _ _ _ _ _ _ _ _ _ _ _) rfl 5 (by decide) k37 (fun _ h9 => h9) rfl dX4_set_22 ?_
      refine va_getN (D := gD G) (ci := 2) (v := .ref (h 71)) (C := RX2) (T := TX2) (N := 2) hx hb hts hiX2 hown hK hP 47 (xp_47 _ _ _ _ _ _ _ _ _ _ _ _) rfl 0 (by decide) k229 (fun _ h9 => h9) rfl dX4_set_25 ?_
      refine lv_iload_n hx hb dX4_set_28 rfl (lv_at hl 2 rfl) ?_
      refine aaldJ (f := fun i => some (h (70 + (3 + i)))) (n := 4) (k := 0) (b := h 73) hx hb hK hP 48 (xp_48 _ _ _ _ _ _ _ _ _ _ _ _) rfl (by decide) rfl dX4_set_29 ?_
      refine lv_iload_n hx hb dX4_set_30 rfl (lv_at hl 3 rfl) ?_
      refine laldN (f := jj 0) (n := 40) (k := ji7) hx hb hK hP 50 (xp_50 _ _ _ _ _ _ _ _ _ _ _ _) rfl (by omega) dX4_set_31 ?_
      refine lv_lstore (lv' := [(6, .long ((jj 0) ji7)), (5, .int (0 : Int32)), (0, .ref (h 0)), (1, .int (nI 0)), (2, .int (nI ji7)), (3, .long xx)]) hx hb dX4_set_32 hl (by decide) rfl (fun ls hl => ?_)
      refine lv_aload_n hx hb dX4_set_34 rfl (lv_at hl 2 rfl) ?_
      refine va_get (D := gD G) (ci := 4) (v := .ref (h 70)) (C := RX4) (T := TX4) (N := 9) hx hb hts hiX4 hown hK hP 0 (xp_0 _ _ _ _ _ _ _ _ _ _ _ _) rfl 5 (by decide) k37 (fun _ h9 => h9) rfl dX4_set_35 ?_
      refine va_getN (D := gD G) (ci := 2) (v := .ref (h 71)) (C := RX2) (T := TX2) (N := 2) hx hb hts hiX2 hown hK hP 47 (xp_47 _ _ _ _ _ _ _ _ _ _ _ _) rfl 0 (by decide) k229 (fun _ h9 => h9) rfl dX4_set_38 ?_
      refine lv_iload_n hx hb dX4_set_41 rfl (lv_at hl 3 rfl) ?_
      refine aaldJ (f := fun i => some (h (70 + (3 + i)))) (n := 4) (k := 0) (b := h 73) hx hb hK hP 48 (xp_48 _ _ _ _ _ _ _ _ _ _ _ _) rfl (by decide) rfl dX4_set_42 ?_
      refine lv_iload_n hx hb dX4_set_43 rfl (lv_at hl 4 rfl) ?_
      refine lv_lload_n hx hb dX4_set_44 rfl (lv_at hl 5 rfl) ?_
      refine lastN (f := jj 0) (n := 40) (k := ji7) hx hb hK hP hD hS 50 (xp_50 _ _ _ _ _ _ _ _ _ _ _ _) rfl (by omega) dX4_set_45 (fun H locs hP hD hS => ?_)
      rw [xs_50] at hP hD
      have hP : PP G (xw G h x wn wa w0 w1 rd wr z (va_up jj 0 (vp_updL (jj 0) ji7 xx)) lt) H := hP
      have hD : va_D A (xw G h x wn wa w0 w1 rd wr z (va_up jj 0 (vp_updL (jj 0) ji7 xx)) lt) := hD
      refine lv_lload hx hb dX4_set_46 (lv_at hl 0 rfl) ?_
      exact W.lret (v := (jj 0) ji7) hx hb hr (fun t ht hW => ⟨⟨(jj 0) ji7, (x, wn, wa, w0, w1, rd, wr, z, va_up jj 0 (vp_updL (jj 0) ji7 xx), lt), rfl, ⟨_, _, _, _, _, _, _, _, _, _, rfl, ⟨nv, nl, hnv, by omega, hnl, by omega⟩, ⟨nva, nla, hnva, by omega, hnla, by omega⟩, ⟨nv0, nl0, hnv0, by omega, hnl0, by omega⟩, ⟨nv1, nl1, hnv1, by omega, hnl1, by omega⟩, rfl, rfl, rfl, rfl⟩, show PP G (xw G h x wn wa w0 w1 rd wr z (va_up jj 0 (vp_updL (jj 0) ji7 xx)) lt) t.heap by rw [ht]; exact hP⟩, hS.F ht⟩) hS.2.2 dX4_set_48
    · skip
      refine lv_aload_n hx hb dX4_set_21 rfl (lv_at hl 1 rfl) ?_
      refine va_get (D := gD G) (ci := 4) (v := .ref (h 70)) (C := RX4) (T := TX4) (N := 9) hx hb hts hiX4 hown hK hP 0 (xp_0 _ _ _ _ _ _ _ _ _ _ _ _) rfl 5 (by decide) k37 (fun _ h9 => h9) rfl dX4_set_22 ?_
      refine va_getN (D := gD G) (ci := 2) (v := .ref (h 71)) (C := RX2) (T := TX2) (N := 2) hx hb hts hiX2 hown hK hP 47 (xp_47 _ _ _ _ _ _ _ _ _ _ _ _) rfl 0 (by decide) k229 (fun _ h9 => h9) rfl dX4_set_25 ?_
      refine lv_iload_n hx hb dX4_set_28 rfl (lv_at hl 2 rfl) ?_
      refine aaldJ (f := fun i => some (h (70 + (3 + i)))) (n := 4) (k := 1) (b := h 74) hx hb hK hP 48 (xp_48 _ _ _ _ _ _ _ _ _ _ _ _) rfl (by decide) rfl dX4_set_29 ?_
      refine lv_iload_n hx hb dX4_set_30 rfl (lv_at hl 3 rfl) ?_
      refine laldN (f := jj 1) (n := 40) (k := ji7) hx hb hK hP 51 (xp_51 _ _ _ _ _ _ _ _ _ _ _ _) rfl (by omega) dX4_set_31 ?_
      refine lv_lstore (lv' := [(6, .long ((jj 1) ji7)), (5, .int (0 : Int32)), (0, .ref (h 0)), (1, .int (nI 1)), (2, .int (nI ji7)), (3, .long xx)]) hx hb dX4_set_32 hl (by decide) rfl (fun ls hl => ?_)
      refine lv_aload_n hx hb dX4_set_34 rfl (lv_at hl 2 rfl) ?_
      refine va_get (D := gD G) (ci := 4) (v := .ref (h 70)) (C := RX4) (T := TX4) (N := 9) hx hb hts hiX4 hown hK hP 0 (xp_0 _ _ _ _ _ _ _ _ _ _ _ _) rfl 5 (by decide) k37 (fun _ h9 => h9) rfl dX4_set_35 ?_
      refine va_getN (D := gD G) (ci := 2) (v := .ref (h 71)) (C := RX2) (T := TX2) (N := 2) hx hb hts hiX2 hown hK hP 47 (xp_47 _ _ _ _ _ _ _ _ _ _ _ _) rfl 0 (by decide) k229 (fun _ h9 => h9) rfl dX4_set_38 ?_
      refine lv_iload_n hx hb dX4_set_41 rfl (lv_at hl 3 rfl) ?_
      refine aaldJ (f := fun i => some (h (70 + (3 + i)))) (n := 4) (k := 1) (b := h 74) hx hb hK hP 48 (xp_48 _ _ _ _ _ _ _ _ _ _ _ _) rfl (by decide) rfl dX4_set_42 ?_
      refine lv_iload_n hx hb dX4_set_43 rfl (lv_at hl 4 rfl) ?_
      refine lv_lload_n hx hb dX4_set_44 rfl (lv_at hl 5 rfl) ?_
      refine lastN (f := jj 1) (n := 40) (k := ji7) hx hb hK hP hD hS 51 (xp_51 _ _ _ _ _ _ _ _ _ _ _ _) rfl (by omega) dX4_set_45 (fun H locs hP hD hS => ?_)
      rw [xs_51] at hP hD
      have hP : PP G (xw G h x wn wa w0 w1 rd wr z (va_up jj 1 (vp_updL (jj 1) ji7 xx)) lt) H := hP
      have hD : va_D A (xw G h x wn wa w0 w1 rd wr z (va_up jj 1 (vp_updL (jj 1) ji7 xx)) lt) := hD
      refine lv_lload hx hb dX4_set_46 (lv_at hl 0 rfl) ?_
      exact W.lret (v := (jj 1) ji7) hx hb hr (fun t ht hW => ⟨⟨(jj 1) ji7, (x, wn, wa, w0, w1, rd, wr, z, va_up jj 1 (vp_updL (jj 1) ji7 xx), lt), rfl, ⟨_, _, _, _, _, _, _, _, _, _, rfl, ⟨nv, nl, hnv, by omega, hnl, by omega⟩, ⟨nva, nla, hnva, by omega, hnla, by omega⟩, ⟨nv0, nl0, hnv0, by omega, hnl0, by omega⟩, ⟨nv1, nl1, hnv1, by omega, hnl1, by omega⟩, rfl, rfl, rfl, rfl⟩, show PP G (xw G h x wn wa w0 w1 rd wr z (va_up jj 1 (vp_updL (jj 1) ji7 xx)) lt) t.heap by rw [ht]; exact hP⟩, hS.F ht⟩) hS.2.2 dX4_set_48
    · skip
      refine lv_aload_n hx hb dX4_set_21 rfl (lv_at hl 1 rfl) ?_
      refine va_get (D := gD G) (ci := 4) (v := .ref (h 70)) (C := RX4) (T := TX4) (N := 9) hx hb hts hiX4 hown hK hP 0 (xp_0 _ _ _ _ _ _ _ _ _ _ _ _) rfl 5 (by decide) k37 (fun _ h9 => h9) rfl dX4_set_22 ?_
      refine va_getN (D := gD G) (ci := 2) (v := .ref (h 71)) (C := RX2) (T := TX2) (N := 2) hx hb hts hiX2 hown hK hP 47 (xp_47 _ _ _ _ _ _ _ _ _ _ _ _) rfl 0 (by decide) k229 (fun _ h9 => h9) rfl dX4_set_25 ?_
      refine lv_iload_n hx hb dX4_set_28 rfl (lv_at hl 2 rfl) ?_
      refine aaldJ (f := fun i => some (h (70 + (3 + i)))) (n := 4) (k := 2) (b := h 75) hx hb hK hP 48 (xp_48 _ _ _ _ _ _ _ _ _ _ _ _) rfl (by decide) rfl dX4_set_29 ?_
      refine lv_iload_n hx hb dX4_set_30 rfl (lv_at hl 3 rfl) ?_
      refine laldN (f := jj 2) (n := 40) (k := ji7) hx hb hK hP 52 (xp_52 _ _ _ _ _ _ _ _ _ _ _ _) rfl (by omega) dX4_set_31 ?_
      refine lv_lstore (lv' := [(6, .long ((jj 2) ji7)), (5, .int (0 : Int32)), (0, .ref (h 0)), (1, .int (nI 2)), (2, .int (nI ji7)), (3, .long xx)]) hx hb dX4_set_32 hl (by decide) rfl (fun ls hl => ?_)
      refine lv_aload_n hx hb dX4_set_34 rfl (lv_at hl 2 rfl) ?_
      refine va_get (D := gD G) (ci := 4) (v := .ref (h 70)) (C := RX4) (T := TX4) (N := 9) hx hb hts hiX4 hown hK hP 0 (xp_0 _ _ _ _ _ _ _ _ _ _ _ _) rfl 5 (by decide) k37 (fun _ h9 => h9) rfl dX4_set_35 ?_
      refine va_getN (D := gD G) (ci := 2) (v := .ref (h 71)) (C := RX2) (T := TX2) (N := 2) hx hb hts hiX2 hown hK hP 47 (xp_47 _ _ _ _ _ _ _ _ _ _ _ _) rfl 0 (by decide) k229 (fun _ h9 => h9) rfl dX4_set_38 ?_
      refine lv_iload_n hx hb dX4_set_41 rfl (lv_at hl 3 rfl) ?_
      refine aaldJ (f := fun i => some (h (70 + (3 + i)))) (n := 4) (k := 2) (b := h 75) hx hb hK hP 48 (xp_48 _ _ _ _ _ _ _ _ _ _ _ _) rfl (by decide) rfl dX4_set_42 ?_
      refine lv_iload_n hx hb dX4_set_43 rfl (lv_at hl 4 rfl) ?_
      refine lv_lload_n hx hb dX4_set_44 rfl (lv_at hl 5 rfl) ?_
      refine lastN (f := jj 2) (n := 40) (k := ji7) hx hb hK hP hD hS 52 (xp_52 _ _ _ _ _ _ _ _ _ _ _ _) rfl (by omega) dX4_set_45 (fun H locs hP hD hS => ?_)
      rw [xs_52] at hP hD
      have hP : PP G (xw G h x wn wa w0 w1 rd wr z (va_up jj 2 (vp_updL (jj 2) ji7 xx)) lt) H := hP
      have hD : va_D A (xw G h x wn wa w0 w1 rd wr z (va_up jj 2 (vp_updL (jj 2) ji7 xx)) lt) := hD
      refine lv_lload hx hb dX4_set_46 (lv_at hl 0 rfl) ?_
      exact W.lret (v := (jj 2) ji7) hx hb hr (fun t ht hW => ⟨⟨(jj 2) ji7, (x, wn, wa, w0, w1, rd, wr, z, va_up jj 2 (vp_updL (jj 2) ji7 xx), lt), rfl, ⟨_, _, _, _, _, _, _, _, _, _, rfl, ⟨nv, nl, hnv, by omega, hnl, by omega⟩, ⟨nva, nla, hnva, by omega, hnla, by omega⟩, ⟨nv0, nl0, hnv0, by omega, hnl0, by omega⟩, ⟨nv1, nl1, hnv1, by omega, hnl1, by omega⟩, rfl, rfl, rfl, rfl⟩, show PP G (xw G h x wn wa w0 w1 rd wr z (va_up jj 2 (vp_updL (jj 2) ji7 xx)) lt) t.heap by rw [ht]; exact hP⟩, hS.F ht⟩) hS.2.2 dX4_set_48
    · skip
      refine lv_aload_n hx hb dX4_set_21 rfl (lv_at hl 1 rfl) ?_
      refine va_get (D := gD G) (ci := 4) (v := .ref (h 70)) (C := RX4) (T := TX4) (N := 9) hx hb hts hiX4 hown hK hP 0 (xp_0 _ _ _ _ _ _ _ _ _ _ _ _) rfl 5 (by decide) k37 (fun _ h9 => h9) rfl dX4_set_22 ?_
      refine va_getN (D := gD G) (ci := 2) (v := .ref (h 71)) (C := RX2) (T := TX2) (N := 2) hx hb hts hiX2 hown hK hP 47 (xp_47 _ _ _ _ _ _ _ _ _ _ _ _) rfl 0 (by decide) k229 (fun _ h9 => h9) rfl dX4_set_25 ?_
      refine lv_iload_n hx hb dX4_set_28 rfl (lv_at hl 2 rfl) ?_
      refine aaldJ (f := fun i => some (h (70 + (3 + i)))) (n := 4) (k := 3) (b := h 76) hx hb hK hP 48 (xp_48 _ _ _ _ _ _ _ _ _ _ _ _) rfl (by decide) rfl dX4_set_29 ?_
      refine lv_iload_n hx hb dX4_set_30 rfl (lv_at hl 3 rfl) ?_
      refine laldN (f := jj 3) (n := 40) (k := ji7) hx hb hK hP 53 (xp_53 _ _ _ _ _ _ _ _ _ _ _ _) rfl (by omega) dX4_set_31 ?_
      refine lv_lstore (lv' := [(6, .long ((jj 3) ji7)), (5, .int (0 : Int32)), (0, .ref (h 0)), (1, .int (nI 3)), (2, .int (nI ji7)), (3, .long xx)]) hx hb dX4_set_32 hl (by decide) rfl (fun ls hl => ?_)
      refine lv_aload_n hx hb dX4_set_34 rfl (lv_at hl 2 rfl) ?_
      refine va_get (D := gD G) (ci := 4) (v := .ref (h 70)) (C := RX4) (T := TX4) (N := 9) hx hb hts hiX4 hown hK hP 0 (xp_0 _ _ _ _ _ _ _ _ _ _ _ _) rfl 5 (by decide) k37 (fun _ h9 => h9) rfl dX4_set_35 ?_
      refine va_getN (D := gD G) (ci := 2) (v := .ref (h 71)) (C := RX2) (T := TX2) (N := 2) hx hb hts hiX2 hown hK hP 47 (xp_47 _ _ _ _ _ _ _ _ _ _ _ _) rfl 0 (by decide) k229 (fun _ h9 => h9) rfl dX4_set_38 ?_
      refine lv_iload_n hx hb dX4_set_41 rfl (lv_at hl 3 rfl) ?_
      refine aaldJ (f := fun i => some (h (70 + (3 + i)))) (n := 4) (k := 3) (b := h 76) hx hb hK hP 48 (xp_48 _ _ _ _ _ _ _ _ _ _ _ _) rfl (by decide) rfl dX4_set_42 ?_
      refine lv_iload_n hx hb dX4_set_43 rfl (lv_at hl 4 rfl) ?_
      refine lv_lload_n hx hb dX4_set_44 rfl (lv_at hl 5 rfl) ?_
      refine lastN (f := jj 3) (n := 40) (k := ji7) hx hb hK hP hD hS 53 (xp_53 _ _ _ _ _ _ _ _ _ _ _ _) rfl (by omega) dX4_set_45 (fun H locs hP hD hS => ?_)
      rw [xs_53] at hP hD
      have hP : PP G (xw G h x wn wa w0 w1 rd wr z (va_up jj 3 (vp_updL (jj 3) ji7 xx)) lt) H := hP
      have hD : va_D A (xw G h x wn wa w0 w1 rd wr z (va_up jj 3 (vp_updL (jj 3) ji7 xx)) lt) := hD
      refine lv_lload hx hb dX4_set_46 (lv_at hl 0 rfl) ?_
      exact W.lret (v := (jj 3) ji7) hx hb hr (fun t ht hW => ⟨⟨(jj 3) ji7, (x, wn, wa, w0, w1, rd, wr, z, va_up jj 3 (vp_updL (jj 3) ji7 xx), lt), rfl, ⟨_, _, _, _, _, _, _, _, _, _, rfl, ⟨nv, nl, hnv, by omega, hnl, by omega⟩, ⟨nva, nla, hnva, by omega, hnla, by omega⟩, ⟨nv0, nl0, hnv0, by omega, hnl0, by omega⟩, ⟨nv1, nl1, hnv1, by omega, hnl1, by omega⟩, rfl, rfl, rfl, rfl⟩, show PP G (xw G h x wn wa w0 w1 rd wr z (va_up jj 3 (vp_updL (jj 3) ji7 xx)) lt) t.heap by rw [ht]; exact hP⟩, hS.F ht⟩) hS.2.2 dX4_set_48
  · skip
    refine lv_istore (lv' := [(5, .int (-1000000001 : Int32)), (0, .ref (h 0)), (1, .int s1), (2, .int i1), (3, .long xx)]) hx hb dX4_set_10 hl (by decide) rfl (fun ls hl => ?_)
    refine lv_iload hx hb dX4_set_12 (lv_at hl 0 rfl) ?_
    refine lv_if_eq (tgt := 21) hx hb dX4_set_14 (by decide) (fun c9 => absurd c9 (by decide)) (fun _ => ?_)
    refine lv_iload hx hb dX4_set_17 (lv_at hl 0 rfl) ?_
    refine lv_i2l (v := (-1000000001 : Int32).toInt64) hx hb dX4_set_19 rfl ?_
    exact W.lret (v := (-1000000001 : Int32).toInt64) hx hb hr (fun t ht hW => ⟨⟨(-1000000001 : Int32).toInt64, (x, wn, wa, w0, w1, rd, wr, z, jj, lt), rfl, ⟨_, _, _, _, _, _, _, _, _, _, rfl, ⟨nv, nl, hnv, by omega, hnl, by omega⟩, ⟨nva, nla, hnva, by omega, hnla, by omega⟩, ⟨nv0, nl0, hnv0, by omega, hnl0, by omega⟩, ⟨nv1, nl1, hnv1, by omega, hnl1, by omega⟩, rfl, rfl, rfl, rfl⟩, show PP G (xw G h x wn wa w0 w1 rd wr z jj lt) t.heap by rw [ht]; exact hP⟩, hS.F ht⟩) hS.2.2 dX4_set_20
  · skip
    refine lv_istore (lv' := [(5, .int (-1000000011 : Int32)), (0, .ref (h 0)), (1, .int s1), (2, .int i1), (3, .long xx)]) hx hb dX4_set_10 hl (by decide) rfl (fun ls hl => ?_)
    refine lv_iload hx hb dX4_set_12 (lv_at hl 0 rfl) ?_
    refine lv_if_eq (tgt := 21) hx hb dX4_set_14 (by decide) (fun c9 => absurd c9 (by decide)) (fun _ => ?_)
    refine lv_iload hx hb dX4_set_17 (lv_at hl 0 rfl) ?_
    refine lv_i2l (v := (-1000000011 : Int32).toInt64) hx hb dX4_set_19 rfl ?_
    exact W.lret (v := (-1000000011 : Int32).toInt64) hx hb hr (fun t ht hW => ⟨⟨(-1000000011 : Int32).toInt64, (x, wn, wa, w0, w1, rd, wr, z, jj, lt), rfl, ⟨_, _, _, _, _, _, _, _, _, _, rfl, ⟨nv, nl, hnv, by omega, hnl, by omega⟩, ⟨nva, nla, hnva, by omega, hnla, by omega⟩, ⟨nv0, nl0, hnv0, by omega, hnl0, by omega⟩, ⟨nv1, nl1, hnv1, by omega, hnl1, by omega⟩, rfl, rfl, rfl, rfl⟩, show PP G (xw G h x wn wa w0 w1 rd wr z jj lt) t.heap by rw [ht]; exact hP⟩, hS.F ht⟩) hS.2.2 dX4_set_20
  · skip
    refine lv_istore (lv' := [(5, .int (-1000000012 : Int32)), (0, .ref (h 0)), (1, .int s1), (2, .int i1), (3, .long xx)]) hx hb dX4_set_10 hl (by decide) rfl (fun ls hl => ?_)
    refine lv_iload hx hb dX4_set_12 (lv_at hl 0 rfl) ?_
    refine lv_if_eq (tgt := 21) hx hb dX4_set_14 (by decide) (fun c9 => absurd c9 (by decide)) (fun _ => ?_)
    refine lv_iload hx hb dX4_set_17 (lv_at hl 0 rfl) ?_
    refine lv_i2l (v := (-1000000012 : Int32).toInt64) hx hb dX4_set_19 rfl ?_
    exact W.lret (v := (-1000000012 : Int32).toInt64) hx hb hr (fun t ht hW => ⟨⟨(-1000000012 : Int32).toInt64, (x, wn, wa, w0, w1, rd, wr, z, jj, lt), rfl, ⟨_, _, _, _, _, _, _, _, _, _, rfl, ⟨nv, nl, hnv, by omega, hnl, by omega⟩, ⟨nva, nla, hnva, by omega, hnla, by omega⟩, ⟨nv0, nl0, hnv0, by omega, hnl0, by omega⟩, ⟨nv1, nl1, hnv1, by omega, hnl1, by omega⟩, rfl, rfl, rfl, rfl⟩, show PP G (xw G h x wn wa w0 w1 rd wr z jj lt) t.heap by rw [ht]; exact hP⟩, hS.F ht⟩) hS.2.2 dX4_set_20
set_option maxHeartbeats 1000000 in
set_option maxRecDepth 100000 in
theorem mt_X4_drop (l : Launch) (G : gG) (h : Nat → Nat) (sz : Nat) (x : oS) (wn : oS) (wa : oS) (w0 : oS) (w1 : oS) (rd : oS) (wr : oS) (z : oS) (jj : Nat → Nat → Int64) (lt : Int64) (nv : Nat) (nl : Nat) (nva : Nat) (nla : Nat) (nv0 : Nat) (nl0 : Nat) (nv1 : Nat) (nl1 : Nat) (len : Nat) (s1 : Int32) (hnv : wn.1 0 = nI nv) (hnl : wn.1 5 = nI nl) (hnva : wa.1 0 = nI nva) (hnla : wa.1 5 = nI nla) (hnv0 : w0.1 0 = nI nv0) (hnl0 : w0.1 5 = nI nl0) (hnv1 : w1.1 0 = nI nv1) (hnl1 : w1.1 5 = nI nl1) (hlen : rd.1 1 = nI len) (hnv24 : nv ≤ 24) (hnl120 : nl ≤ 120) (hva24 : nva ≤ 24) (hla120 : nla ≤ 120) (hv024 : nv0 ≤ 24) (hl0120 : nl0 ≤ 120) (hv124 : nv1 ≤ 24) (hl1120 : nl1 ≤ 120) (hl240 : len ≤ 240) (hsz : ∀ j, j < 4 → z.2 1 j = -1 ∨ ∃ q, q ≤ 40 ∧ z.2 1 j = nI q) : Met l yX4_drop wsX4_drop ({ frames := 2, cells := 0, slots := 0, locals := 44 }) (preW G (xw G h x wn wa w0 w1 rd wr z jj lt) sz [.ref (h 0), .int s1]) (va_Qi (fun (r : Int32) (v : oS × oS × oS × oS × oS × oS × oS × oS × (Nat → Nat → Int64) × Int64) => (r = -1000000001 ∧ XQ x rd z v ∧ ∀ j, j < 4 → s1 ≠ nI j) ∨ (∃ j, j < 4 ∧ s1 = nI j ∧ z.2 1 j = -1 ∧ r = -1000000011 ∧ XQ x rd z v) ∨ (∃ j q, j < 4 ∧ s1 = nI j ∧ q ≤ 40 ∧ z.2 1 j = nI q ∧ r = nI q ∧ XQ x rd (oA z 1 (upd (z.2 1) j (-1))) v)) (fun v t => PP G (xw G h v.1 v.2.1 v.2.2.1 v.2.2.2.1 v.2.2.2.2.1 v.2.2.2.2.2.1 v.2.2.2.2.2.2.1 v.2.2.2.2.2.2.2.1 v.2.2.2.2.2.2.2.2.1 v.2.2.2.2.2.2.2.2.2) t.heap) (va_A (xw G h x wn wa w0 w1 rd wr z jj lt) sz)) 0 0 (va_A (xw G h x wn wa w0 w1 rd wr z jj lt) sz) := by
  refine Met.ofW (cc := cX4_drop) (maxL := 4) (ret := (some .int)) (by decide) rfl ?_
  intro p e s m args below meth c s₁ B hml hv
  obtain ⟨ha, hsz, hP, hK, hN, hD0⟩ := hv
  subst ha
  have hx := B.exec
  have hb := B.bytes
  have hr := B.returns
  have hts := atoms_spec (ws := wsX4_drop) B.pre
  have hown : s.vm.findClass RX4 = some m.cls := findClass_of_methodNamed B.named
  have hlocks := B.notSynchronized
  subst hsz
  have hD := hD0.self (sz := s.heap.size)
  generalize hAe : va_A (xw G h x wn wa w0 w1 rd wr z jj lt) s.heap.size = A at hD ⊢
  have hA : ∀ q : Nat, s.heap.size ≤ q → A q := fun q h => by rw [← hAe]; exact Or.inr h
  clear hAe hD0
  have hS : va_S A s.heap s.heap [] := va_S.rf
  have hiX4 : ∀ w ∈ wsX40, w ∈ wsX4_drop := by decide +kernel
  have k37 := hts (.fieldLink RX4 37 "WovenHistory" "sheets" "LWovenHistory$Sheets;") (List.mem_of_getElem? (i := 1) rfl)
  have hiX2 : ∀ w ∈ wsX20, w ∈ wsX4_drop := by decide +kernel
  have k233 : (Cond.fieldLinkNest "WovenHistory" 233 "WovenHistory$Sheets" "sizes" "[I" "WovenHistory").before _ s = true := va_Nw.use (A := ([.ref (h 0), .int s1] : List Value).toArray) rfl (hN.1 ("WovenHistory", 233, "WovenHistory$Sheets", "sizes", "[I") (List.mem_of_getElem? (i := 8) rfl))
  have hl := lv_entry ([.ref (h 0), .int s1]) (n := 4) (Nat.le_of_ble_eq_true rfl)
  rw [lg_entry_eq]
  generalize (lg_sl ([.ref (h 0), .int s1]) ++ List.replicate (4 - (lg_sl ([.ref (h 0), .int s1])).length) Slot.unset).toArray = ls at hl ⊢
  have hl : lv_has ls 4 [(0, .ref (h 0)), (1, .int s1)] := hl
  refine lv_aload_n hx hb dX4_drop_0 rfl (lv_at hl 0 rfl) ?_
  refine va_get (D := gD G) (ci := 4) (v := .ref (h 70)) (C := RX4) (T := TX4) (N := 9) hx hb hts hiX4 hown hK hP 0 (xp_0 _ _ _ _ _ _ _ _ _ _ _ _) rfl 5 (by decide) k37 (fun _ h9 => h9) rfl dX4_drop_1 ?_
  refine lv_iload_n hx hb dX4_drop_4 rfl (lv_at hl 1 rfl) ?_
  refine lv_iconst (v := nI 0) hx hb dX4_drop_5 (by decide) ?_
  refine lv_iconst (v := nI 0) hx hb dX4_drop_6 (by decide) ?_
  refine cRi (w := sv G (fun k => h (70 + k)) z jj) (As := [.int s1, .int (nI 0), .int (nI 0)]) (rest := []) ⟨hx, hb, hml, hown, hts⟩ (mt_X2_findWrong l G (fun k => h (70 + k)) z jj s1 (nI 0) (nI 0) (by first | assumption | omega)) (cwV 3 hts gX4_drop_X2_findWrong rfl rfl rfl (by decide +kernel) ⟨Nat.le_of_ble_eq_true rfl, Nat.le_of_ble_eq_true rfl⟩) hK hN (hP.sub [47, 48, 49, 50, 51, 52, 53] (xf_z _ _ _ _ _ _ _ _ _ _ _ _)) 0 2 rfl rfl rfl hl.1 rfl (Nat.le_of_ble_eq_true rfl) ⟨Nat.zero_le _, Nat.zero_le _⟩ dX4_drop_7 (fun r7 hw7 => ?_)
  rcases hw7 with ⟨rfl, js7, ji7, nn7, q7, hjs7, rfl, hq7, eq7, eji7, enn7, hs7⟩ | ⟨rfl, hnu7⟩ | ⟨rfl, js7, hjs7, rfl, eq7⟩ | ⟨rfl, js7, q7, hjs7, ejs7, hq7, eq7, hpl7⟩
  · skip
    refine lv_istore_n (lv' := [(2, .int (0 : Int32)), (0, .ref (h 0)), (1, .int (nI js7))]) hx hb dX4_drop_10 rfl hl (by decide) rfl (fun ls hl => ?_)
    refine lv_iload_n hx hb dX4_drop_11 rfl (lv_at hl 0 rfl) ?_
    refine lv_if_eq (tgt := 17) hx hb dX4_drop_12 (by decide) (fun _ => ?_) (fun c9 => absurd (by decide) c9)
    refine lv_aload_n hx hb dX4_drop_17 rfl (lv_at hl 1 rfl) ?_
    refine va_get (D := gD G) (ci := 4) (v := .ref (h 70)) (C := RX4) (T := TX4) (N := 9) hx hb hts hiX4 hown hK hP 0 (xp_0 _ _ _ _ _ _ _ _ _ _ _ _) rfl 5 (by decide) k37 (fun _ h9 => h9) rfl dX4_drop_18 ?_
    refine va_getN (D := gD G) (ci := 2) (v := .ref (h 72)) (C := RX2) (T := TX2) (N := 2) hx hb hts hiX2 hown hK hP 47 (xp_47 _ _ _ _ _ _ _ _ _ _ _ _) rfl 1 (by decide) k233 (fun _ h9 => h9) rfl dX4_drop_21 ?_
    refine lv_iload_n hx hb dX4_drop_24 rfl (lv_at hl 2 rfl) ?_
    refine ialdN (f := z.2 1) (n := 4) (k := js7) hx hb hK hP 49 (xp_49 _ _ _ _ _ _ _ _ _ _ _ _) rfl (by omega) dX4_drop_25 ?_
    refine lv_istore_n (lv' := [(3, .int ((z.2 1) js7)), (2, .int (0 : Int32)), (0, .ref (h 0)), (1, .int (nI js7))]) hx hb dX4_drop_26 rfl hl (by decide) rfl (fun ls hl => ?_)
    refine lv_aload_n hx hb dX4_drop_27 rfl (lv_at hl 2 rfl) ?_
    refine va_get (D := gD G) (ci := 4) (v := .ref (h 70)) (C := RX4) (T := TX4) (N := 9) hx hb hts hiX4 hown hK hP 0 (xp_0 _ _ _ _ _ _ _ _ _ _ _ _) rfl 5 (by decide) k37 (fun _ h9 => h9) rfl dX4_drop_28 ?_
    refine va_getN (D := gD G) (ci := 2) (v := .ref (h 72)) (C := RX2) (T := TX2) (N := 2) hx hb hts hiX2 hown hK hP 47 (xp_47 _ _ _ _ _ _ _ _ _ _ _ _) rfl 1 (by decide) k233 (fun _ h9 => h9) rfl dX4_drop_31 ?_
    refine lv_iload_n hx hb dX4_drop_34 rfl (lv_at hl 3 rfl) ?_
    refine lv_iconst (v := (-1 : Int32)) hx hb dX4_drop_35 (by decide) ?_
    refine iastN (f := z.2 1) (n := 4) (k := js7) hx hb hK hP hD hS 49 (xp_49 _ _ _ _ _ _ _ _ _ _ _ _) rfl (by omega) dX4_drop_36 (fun H locs hP hD hS => ?_)
    rw [xs_49] at hP hD
    have hP : PP G (xw G h x wn wa w0 w1 rd wr (oA z 1 (upd (z.2 1) js7 (-1 : Int32))) jj lt) H := hP
    have hD : va_D A (xw G h x wn wa w0 w1 rd wr (oA z 1 (upd (z.2 1) js7 (-1 : Int32))) jj lt) := hD
    refine lv_iload_n hx hb dX4_drop_37 rfl (lv_at hl 0 rfl) ?_
    exact W.iret (v := (z.2 1) js7) hx hb hr (fun t ht hW => ⟨⟨(z.2 1) js7, (x, wn, wa, w0, w1, rd, wr, oA z 1 (upd (z.2 1) js7 (-1 : Int32)), jj, lt), rfl, Or.inr (Or.inr ⟨js7, q7, hjs7, rfl, hq7, eq7, eq7, ⟨_, _, _, _, _, _, _, _, _, _, rfl, ⟨nv, nl, hnv, by omega, hnl, by omega⟩, ⟨nva, nla, hnva, by omega, hnla, by omega⟩, ⟨nv0, nl0, hnv0, by omega, hnl0, by omega⟩, ⟨nv1, nl1, hnv1, by omega, hnl1, by omega⟩, rfl, rfl, rfl, rfl⟩⟩), show PP G (xw G h x wn wa w0 w1 rd wr (oA z 1 (upd (z.2 1) js7 (-1 : Int32))) jj lt) t.heap by rw [ht]; exact hP⟩, hS.F ht⟩) hS.2.2 dX4_drop_38
  · skip
    refine lv_istore_n (lv' := [(2, .int (-1000000001 : Int32)), (0, .ref (h 0)), (1, .int s1)]) hx hb dX4_drop_10 rfl hl (by decide) rfl (fun ls hl => ?_)
    refine lv_iload_n hx hb dX4_drop_11 rfl (lv_at hl 0 rfl) ?_
    refine lv_if_eq (tgt := 17) hx hb dX4_drop_12 (by decide) (fun c9 => absurd c9 (by decide)) (fun _ => ?_)
    refine lv_iload_n hx hb dX4_drop_15 rfl (lv_at hl 0 rfl) ?_
    exact W.iret (v := (-1000000001 : Int32)) hx hb hr (fun t ht hW => ⟨⟨(-1000000001 : Int32), (x, wn, wa, w0, w1, rd, wr, z, jj, lt), rfl, Or.inl ⟨rfl, ⟨_, _, _, _, _, _, _, _, _, _, rfl, ⟨nv, nl, hnv, by omega, hnl, by omega⟩, ⟨nva, nla, hnva, by omega, hnla, by omega⟩, ⟨nv0, nl0, hnv0, by omega, hnl0, by omega⟩, ⟨nv1, nl1, hnv1, by omega, hnl1, by omega⟩, rfl, rfl, rfl, rfl⟩, hnu7⟩, show PP G (xw G h x wn wa w0 w1 rd wr z jj lt) t.heap by rw [ht]; exact hP⟩, hS.F ht⟩) hS.2.2 dX4_drop_16
  · skip
    refine lv_istore_n (lv' := [(2, .int (-1000000011 : Int32)), (0, .ref (h 0)), (1, .int (nI js7))]) hx hb dX4_drop_10 rfl hl (by decide) rfl (fun ls hl => ?_)
    refine lv_iload_n hx hb dX4_drop_11 rfl (lv_at hl 0 rfl) ?_
    refine lv_if_eq (tgt := 17) hx hb dX4_drop_12 (by decide) (fun c9 => absurd c9 (by decide)) (fun _ => ?_)
    refine lv_iload_n hx hb dX4_drop_15 rfl (lv_at hl 0 rfl) ?_
    exact W.iret (v := (-1000000011 : Int32)) hx hb hr (fun t ht hW => ⟨⟨(-1000000011 : Int32), (x, wn, wa, w0, w1, rd, wr, z, jj, lt), rfl, Or.inr (Or.inl ⟨js7, hjs7, rfl, eq7, rfl, ⟨_, _, _, _, _, _, _, _, _, _, rfl, ⟨nv, nl, hnv, by omega, hnl, by omega⟩, ⟨nva, nla, hnva, by omega, hnla, by omega⟩, ⟨nv0, nl0, hnv0, by omega, hnl0, by omega⟩, ⟨nv1, nl1, hnv1, by omega, hnl1, by omega⟩, rfl, rfl, rfl, rfl⟩⟩), show PP G (xw G h x wn wa w0 w1 rd wr z jj lt) t.heap by rw [ht]; exact hP⟩, hS.F ht⟩) hS.2.2 dX4_drop_16
  · skip
    exact absurd ⟨0, 0, rfl, rfl, Nat.zero_le _⟩ hpl7
set_option maxHeartbeats 1000000 in
set_option maxRecDepth 100000 in
theorem mt_X4_film (l : Launch) (G : gG) (h : Nat → Nat) (sz : Nat) (x : oS) (wn : oS) (wa : oS) (w0 : oS) (w1 : oS) (rd : oS) (wr : oS) (z : oS) (jj : Nat → Nat → Int64) (lt : Int64) (nv : Nat) (nl : Nat) (nva : Nat) (nla : Nat) (nv0 : Nat) (nl0 : Nat) (nv1 : Nat) (nl1 : Nat) (len : Nat) (a : Int32) (s1 : Int32) (i1 : Int32) (hnv : wn.1 0 = nI nv) (hnl : wn.1 5 = nI nl) (hnva : wa.1 0 = nI nva) (hnla : wa.1 5 = nI nla) (hnv0 : w0.1 0 = nI nv0) (hnl0 : w0.1 5 = nI nl0) (hnv1 : w1.1 0 = nI nv1) (hnl1 : w1.1 5 = nI nl1) (hlen : rd.1 1 = nI len) (hnv24 : nv ≤ 24) (hnl120 : nl ≤ 120) (hva24 : nva ≤ 24) (hla120 : nla ≤ 120) (hv024 : nv0 ≤ 24) (hl0120 : nl0 ≤ 120) (hv124 : nv1 ≤ 24) (hl1120 : nl1 ≤ 120) (hl240 : len ≤ 240) (hsz : ∀ j, j < 4 → z.2 1 j = -1 ∨ ∃ q, q ≤ 40 ∧ z.2 1 j = nI q) : Met l yX4_film wsX4_film ({ frames := 3, cells := 0, slots := 0, locals := 67 }) (preW G (xw G h x wn wa w0 w1 rd wr z jj lt) sz [.ref (h 0), .int a, .int s1, .int i1]) (va_Qi (fun (r : Int32) (v : oS × oS × oS × oS × oS × oS × oS × oS × (Nat → Nat → Int64) × Int64) => XQ x rd z v) (fun v t => PP G (xw G h v.1 v.2.1 v.2.2.1 v.2.2.2.1 v.2.2.2.2.1 v.2.2.2.2.2.1 v.2.2.2.2.2.2.1 v.2.2.2.2.2.2.2.1 v.2.2.2.2.2.2.2.2.1 v.2.2.2.2.2.2.2.2.2) t.heap) (va_A (xw G h x wn wa w0 w1 rd wr z jj lt) sz)) 0 0 (va_A (xw G h x wn wa w0 w1 rd wr z jj lt) sz) := by
  refine Met.ofW (cc := cX4_film) (maxL := 8) (ret := (some .int)) (by decide) rfl ?_
  intro p e s m args below meth c s₁ B hml hv
  obtain ⟨ha, hsz, hP, hK, hN, hD0⟩ := hv
  subst ha
  have hx := B.exec
  have hb := B.bytes
  have hr := B.returns
  have hts := atoms_spec (ws := wsX4_film) B.pre
  have hown : s.vm.findClass RX4 = some m.cls := findClass_of_methodNamed B.named
  have hlocks := B.notSynchronized
  subst hsz
  have hD := hD0.self (sz := s.heap.size)
  generalize hAe : va_A (xw G h x wn wa w0 w1 rd wr z jj lt) s.heap.size = A at hD ⊢
  have hA : ∀ q : Nat, s.heap.size ≤ q → A q := fun q h => by rw [← hAe]; exact Or.inr h
  clear hAe hD0
  have hS : va_S A s.heap s.heap [] := va_S.rf
  have hiX4 : ∀ w ∈ wsX40, w ∈ wsX4_film := by decide +kernel
  have k10 := hts (.fieldLink RX4 10 "WovenHistory" "now" "LWovenHistory$Weave;") (List.mem_of_getElem? (i := 1) rfl)
  have hiX3 : ∀ w ∈ wsX30, w ∈ wsX4_film := by decide +kernel
  have k115 : (Cond.fieldLinkNest "WovenHistory" 115 "WovenHistory$Weave" "changes" "[I" "WovenHistory").before _ s = true := va_Nw.use (A := ([.ref (h 0), .int a, .int s1, .int i1] : List Value).toArray) rfl (hN.1 ("WovenHistory", 115, "WovenHistory$Weave", "changes", "[I") (List.mem_of_getElem? (i := 1) rfl))
  have k37 := hts (.fieldLink RX4 37 "WovenHistory" "sheets" "LWovenHistory$Sheets;") (List.mem_of_getElem? (i := 3) rfl)
  have k85 : (Cond.fieldLinkNest "WovenHistory" 85 "WovenHistory$Weave" "lines" "I" "WovenHistory").before _ s = true := va_Nw.use (A := ([.ref (h 0), .int a, .int s1, .int i1] : List Value).toArray) rfl (hN.1 ("WovenHistory", 85, "WovenHistory$Weave", "lines", "I") (List.mem_of_getElem? (i := 13) rfl))
  have hiX2 : ∀ w ∈ wsX20, w ∈ wsX4_film := by decide +kernel
  have k229 : (Cond.fieldLinkNest "WovenHistory" 229 "WovenHistory$Sheets" "numbers" "[[J" "WovenHistory").before _ s = true := va_Nw.use (A := ([.ref (h 0), .int a, .int s1, .int i1] : List Value).toArray) rfl (hN.1 ("WovenHistory", 229, "WovenHistory$Sheets", "numbers", "[[J") (List.mem_of_getElem? (i := 7) rfl))
  have hl := lv_entry ([.ref (h 0), .int a, .int s1, .int i1]) (n := 8) (Nat.le_of_ble_eq_true rfl)
  rw [lg_entry_eq]
  generalize (lg_sl ([.ref (h 0), .int a, .int s1, .int i1]) ++ List.replicate (8 - (lg_sl ([.ref (h 0), .int a, .int s1, .int i1])).length) Slot.unset).toArray = ls at hl ⊢
  have hl : lv_has ls 8 [(0, .ref (h 0)), (1, .int a), (2, .int s1), (3, .int i1)] := hl
  refine lv_aload_n hx hb dX4_film_0 rfl (lv_at hl 0 rfl) ?_
  refine va_get (D := gD G) (ci := 4) (v := .ref (h 10)) (C := RX4) (T := TX4) (N := 9) hx hb hts hiX4 hown hK hP 0 (xp_0 _ _ _ _ _ _ _ _ _ _ _ _) rfl 0 (by decide) k10 (fun _ h9 => h9) rfl dX4_film_1 ?_
  refine lv_iload_n hx hb dX4_film_4 rfl (lv_at hl 1 rfl) ?_
  refine cRi (w := wv G (fun k => h (10 + k)) wn) (As := [.int a]) (rest := []) ⟨hx, hb, hml, hown, hts⟩ (mt_X3_hasVersion l G (fun k => h (10 + k)) wn nv a (hnv) (by first | assumption | omega)) (cwV 1 hts gX4_film_X3_hasVersion rfl rfl rfl (by decide +kernel) ⟨Nat.le_of_ble_eq_true rfl, Nat.le_of_ble_eq_true rfl⟩) hK hN (hP.sub [3, 4, 5, 6, 7, 8, 9, 10] (xf_now _ _ _ _ _ _ _ _ _ _ _ _)) 0 3 rfl rfl rfl hl.1 rfl (Nat.le_of_ble_eq_true rfl) ⟨Nat.zero_le _, Nat.zero_le _⟩ dX4_film_5 (fun r5 hw5 => ?_)
  rcases hw5 with ⟨rfl, a1, ha1, rfl⟩ | ⟨rfl, hna1⟩
  · skip
    refine lv_if_ne (tgt := 14) hx hb dX4_film_8 (by decide) (fun _ => ?_) (fun c9 => absurd c9 (by decide))
    refine lv_aload_n hx hb dX4_film_14 rfl (lv_at hl 0 rfl) ?_
    refine va_get (D := gD G) (ci := 4) (v := .ref (h 10)) (C := RX4) (T := TX4) (N := 9) hx hb hts hiX4 hown hK hP 0 (xp_0 _ _ _ _ _ _ _ _ _ _ _ _) rfl 0 (by decide) k10 (fun _ h9 => h9) rfl dX4_film_15 ?_
    refine lv_aload_n hx hb dX4_film_18 rfl (lv_at hl 0 rfl) ?_
    refine va_get (D := gD G) (ci := 4) (v := .ref (h 10)) (C := RX4) (T := TX4) (N := 9) hx hb hts hiX4 hown hK hP 0 (xp_0 _ _ _ _ _ _ _ _ _ _ _ _) rfl 0 (by decide) k10 (fun _ h9 => h9) rfl dX4_film_19 ?_
    refine va_getN (D := gD G) (ci := 3) (v := .ref (h 14)) (C := RX3) (T := TX3) (N := 9) hx hb hts hiX3 hown hK hP 3 (xp_3 _ _ _ _ _ _ _ _ _ _ _ _) rfl 4 (by decide) k115 (fun _ h9 => h9) rfl dX4_film_22 ?_
    refine lv_iload_n hx hb dX4_film_25 rfl (lv_at hl 1 rfl) ?_
    refine ialdN (f := wn.2 4) (n := 24) (k := a1) hx hb hK hP 7 (xp_7 _ _ _ _ _ _ _ _ _ _ _ _) rfl (by omega) dX4_film_26 ?_
    refine cRi (w := wv G (fun k => h (10 + k)) wn) (As := [.int ((wn.2 4) a1)]) (rest := []) ⟨hx, hb, hml, hown, hts⟩ (mt_X3_countStanding l G (fun k => h (10 + k)) wn nl ((wn.2 4) a1) (hnl) (by first | assumption | omega)) (cwV 1 hts gX4_film_X3_countStanding rfl rfl rfl (by decide +kernel) ⟨Nat.le_of_ble_eq_true rfl, Nat.le_of_ble_eq_true rfl⟩) hK hN (hP.sub [3, 4, 5, 6, 7, 8, 9, 10] (xf_now _ _ _ _ _ _ _ _ _ _ _ _)) 0 3 rfl rfl rfl hl.1 rfl (Nat.le_of_ble_eq_true rfl) ⟨Nat.zero_le _, Nat.zero_le _⟩ dX4_film_27 (fun r27 hw27 => ?_)
    obtain rfl := hw27
    have hc27 := cnt_le (sdb (wn.2 7) (wn.2 8) ((wn.2 4) a1)) nl
    refine lv_istore (lv' := [(4, .int (nI (cnt (sdb (wn.2 7) (wn.2 8) ((wn.2 4) a1)) nl))), (0, .ref (h 0)), (1, .int (nI a1)), (2, .int s1), (3, .int i1)]) hx hb dX4_film_30 hl (by decide) rfl (fun ls hl => ?_)
    refine lv_aload_n hx hb dX4_film_32 rfl (lv_at hl 1 rfl) ?_
    refine va_get (D := gD G) (ci := 4) (v := .ref (h 70)) (C := RX4) (T := TX4) (N := 9) hx hb hts hiX4 hown hK hP 0 (xp_0 _ _ _ _ _ _ _ _ _ _ _ _) rfl 5 (by decide) k37 (fun _ h9 => h9) rfl dX4_film_33 ?_
    refine lv_iload_n hx hb dX4_film_36 rfl (lv_at hl 3 rfl) ?_
    refine lv_iload_n hx hb dX4_film_37 rfl (lv_at hl 4 rfl) ?_
    refine lv_iload hx hb dX4_film_38 (lv_at hl 0 rfl) ?_
    refine cRi (w := sv G (fun k => h (70 + k)) z jj) (As := [.int s1, .int i1, .int (nI (cnt (sdb (wn.2 7) (wn.2 8) ((wn.2 4) a1)) nl))]) (rest := []) ⟨hx, hb, hml, hown, hts⟩ (mt_X2_findWrong l G (fun k => h (70 + k)) z jj s1 i1 (nI (cnt (sdb (wn.2 7) (wn.2 8) ((wn.2 4) a1)) nl)) (by first | assumption | omega)) (cwV 3 hts gX4_film_X2_findWrong rfl rfl rfl (by decide +kernel) ⟨Nat.le_of_ble_eq_true rfl, Nat.le_of_ble_eq_true rfl⟩) hK hN (hP.sub [47, 48, 49, 50, 51, 52, 53] (xf_z _ _ _ _ _ _ _ _ _ _ _ _)) 0 2 rfl rfl rfl hl.1 rfl (Nat.le_of_ble_eq_true rfl) ⟨Nat.zero_le _, Nat.zero_le _⟩ dX4_film_40 (fun r40 hw40 => ?_)
    rcases hw40 with ⟨rfl, js40, ji40, nn40, q40, hjs40, rfl, hq40, eq40, rfl, enn40, hs40⟩ | ⟨rfl, hnu40⟩ | ⟨rfl, js40, hjs40, ejs40, eq40⟩ | ⟨rfl, js40, q40, hjs40, ejs40, hq40, eq40, hpl40⟩
    · skip
      refine lv_istore (lv' := [(5, .int (0 : Int32)), (4, .int (nI (cnt (sdb (wn.2 7) (wn.2 8) ((wn.2 4) a1)) nl))), (0, .ref (h 0)), (1, .int (nI a1)), (2, .int (nI js40)), (3, .int (nI ji40))]) hx hb dX4_film_43 hl (by decide) rfl (fun ls hl => ?_)
      refine lv_iload hx hb dX4_film_45 (lv_at hl 0 rfl) ?_
      refine lv_if_eq (tgt := 53) hx hb dX4_film_47 (by decide) (fun _ => ?_) (fun c9 => absurd (by decide) c9)
      have hnn : cnt (sdb (wn.2 7) (wn.2 8) (wn.2 4 a1)) nl = nn40 := (nI_eq (a := cnt (sdb (wn.2 7) (wn.2 8) (wn.2 4 a1)) nl) (b := nn40) (by omega) (by omega)).mp enn40
      rcases (show js40 = 0 ∨ js40 = 1 ∨ js40 = 2 ∨ js40 = 3 by omega) with rfl | rfl | rfl | rfl
      · skip
        refine lv_iload_n hx hb dX4_film_53 rfl (lv_at hl 5 rfl) ?_
        refine lv_istore (lv' := [(6, .int (nI ji40)), (5, .int (0 : Int32)), (4, .int (nI (cnt (sdb (wn.2 7) (wn.2 8) ((wn.2 4) a1)) nl))), (0, .ref (h 0)), (1, .int (nI a1)), (2, .int (nI 0)), (3, .int (nI ji40))]) hx hb dX4_film_54 hl (by decide) rfl (fun ls hl => ?_)
        refine lv_iconst (v := nI 0) hx hb dX4_film_56 (by decide) ?_
        refine lv_istore (lv' := [(7, .int (nI 0)), (6, .int (nI ji40)), (5, .int (0 : Int32)), (4, .int (nI (cnt (sdb (wn.2 7) (wn.2 8) ((wn.2 4) a1)) nl))), (0, .ref (h 0)), (1, .int (nI a1)), (2, .int (nI 0)), (3, .int (nI ji40))]) hx hb dX4_film_57 hl (by decide) rfl (fun ls hl => ?_)
        have LP59 : ∀ (n59m : Nat), ∀ (k : Nat) (pp : Nat) (jk : Nat → Nat → Int64) (hk : k ≤ nl) (hp : pp = ji40 + cnt (sdb (wn.2 7) (wn.2 8) (wn.2 4 a1)) k), (nl - k < n59m) → ∀ (H : Heap) (locs : List Loc) (ls : Array Slot), PP G (xw G h x wn wa w0 w1 rd wr z jk lt) H → va_D A (xw G h x wn wa w0 w1 rd wr z jk lt) → va_S A s.heap H locs → lv_has ls 8 [(0, .ref (h 0)), (1, .int (nI a1)), (2, .int (nI 0)), (4, .int (nI (cnt (sdb (wn.2 7) (wn.2 8) (wn.2 4 a1)) nl))), (6, .int (nI pp)), (7, .int (nI k))] → W p l e (headSpec wsX4_film ({ frames := 3, cells := 0, slots := 0, locals := 67 })).room s m ([.ref (h 0), .int (nI a1), .int (nI 0), .int (nI ji40)] : List Value).toArray below meth c H locs 0 0 (MQ below (va_Qi (fun (r : Int32) (v : oS × oS × oS × oS × oS × oS × oS × oS × (Nat → Nat → Int64) × Int64) => XQ x rd z v) (fun v t => PP G (xw G h v.1 v.2.1 v.2.2.1 v.2.2.2.1 v.2.2.2.2.1 v.2.2.2.2.2.1 v.2.2.2.2.2.2.1 v.2.2.2.2.2.2.2.1 v.2.2.2.2.2.2.2.2.1 v.2.2.2.2.2.2.2.2.2) t.heap) A) ([.ref (h 0), .int (nI a1), .int (nI 0), .int (nI ji40)] : List Value).toArray s 0 0 A) (F0 m 59 ls []) := by
          intro n59m
          induction n59m with
          | zero => intro k pp jk hk hp hmu H locs ls hP hD hS hl; exact absurd hmu (Nat.not_lt_zero _)
          | succ n59m ih59 =>
            intro k pp jk hk hp hmu H locs ls hP hD hS hl
            refine lv_iload hx hb dX4_film_59 (lv_at hl 5 rfl) ?_
            refine lv_aload_n hx hb dX4_film_61 rfl (lv_at hl 0 rfl) ?_
            refine va_get (D := gD G) (ci := 4) (v := .ref (h 10)) (C := RX4) (T := TX4) (N := 9) hx hb hts hiX4 hown hK hP 0 (xp_0 _ _ _ _ _ _ _ _ _ _ _ _) rfl 0 (by decide) k10 (fun _ h9 => h9) rfl dX4_film_62 ?_
            refine va_getN (D := gD G) (ci := 3) (v := .int (wn.1 5)) (C := RX3) (T := TX3) (N := 9) hx hb hts hiX3 hown hK hP 3 (xp_3 _ _ _ _ _ _ _ _ _ _ _ _) rfl 5 (by decide) k85 (fun _ h9 => h9) rfl dX4_film_65 ?_
            refine topE hnl ?_
            refine lv_icmp_ge (tgt := 122) hx hb dX4_film_68 (by decide) (fun c68 => ?_) (fun c68 => ?_)
            · skip
              have n68 : nl ≤ k := (nI_leI (a := nl) (b := k) (by omega) (by omega)).mp c68
              refine lv_iload hx hb dX4_film_122 (lv_at hl 3 rfl) ?_
              exact W.iret (v := nI (cnt (sdb (wn.2 7) (wn.2 8) (wn.2 4 a1)) nl)) hx hb hr (fun t ht hW => ⟨⟨nI (cnt (sdb (wn.2 7) (wn.2 8) (wn.2 4 a1)) nl), (x, wn, wa, w0, w1, rd, wr, z, jk, lt), rfl, ⟨_, _, _, _, _, _, _, _, _, _, rfl, ⟨nv, nl, hnv, by omega, hnl, by omega⟩, ⟨nva, nla, hnva, by omega, hnla, by omega⟩, ⟨nv0, nl0, hnv0, by omega, hnl0, by omega⟩, ⟨nv1, nl1, hnv1, by omega, hnl1, by omega⟩, rfl, rfl, rfl, rfl⟩, show PP G (xw G h x wn wa w0 w1 rd wr z jk lt) t.heap by rw [ht]; exact hP⟩, hS.F ht⟩) hS.2.2 dX4_film_124
            · skip
              have n68 : ¬ (nl ≤ k) := fun q9 => c68 ((nI_leI (a := nl) (b := k) (by omega) (by omega)).mpr q9)
              refine lv_aload_n hx hb dX4_film_71 rfl (lv_at hl 0 rfl) ?_
              refine va_get (D := gD G) (ci := 4) (v := .ref (h 10)) (C := RX4) (T := TX4) (N := 9) hx hb hts hiX4 hown hK hP 0 (xp_0 _ _ _ _ _ _ _ _ _ _ _ _) rfl 0 (by decide) k10 (fun _ h9 => h9) rfl dX4_film_72 ?_
              refine lv_iload hx hb dX4_film_75 (lv_at hl 5 rfl) ?_
              refine lv_aload_n hx hb dX4_film_77 rfl (lv_at hl 0 rfl) ?_
              refine va_get (D := gD G) (ci := 4) (v := .ref (h 10)) (C := RX4) (T := TX4) (N := 9) hx hb hts hiX4 hown hK hP 0 (xp_0 _ _ _ _ _ _ _ _ _ _ _ _) rfl 0 (by decide) k10 (fun _ h9 => h9) rfl dX4_film_78 ?_
              refine va_getN (D := gD G) (ci := 3) (v := .ref (h 14)) (C := RX3) (T := TX3) (N := 9) hx hb hts hiX3 hown hK hP 3 (xp_3 _ _ _ _ _ _ _ _ _ _ _ _) rfl 4 (by decide) k115 (fun _ h9 => h9) rfl dX4_film_81 ?_
              refine lv_iload_n hx hb dX4_film_84 rfl (lv_at hl 1 rfl) ?_
              refine ialdN (f := wn.2 4) (n := 24) (k := a1) hx hb hK hP 7 (xp_7 _ _ _ _ _ _ _ _ _ _ _ _) rfl (by omega) dX4_film_85 ?_
              refine cRi (w := wv G (fun k => h (10 + k)) wn) (As := [.int (nI k), .int ((wn.2 4) a1)]) (rest := []) ⟨hx, hb, hml, hown, hts⟩ (mt_X3_stands l G (fun k => h (10 + k)) wn k ((wn.2 4) a1) (by first | assumption | omega)) (cwV 2 hts gX4_film_X3_stands rfl rfl rfl (by decide +kernel) ⟨Nat.le_of_ble_eq_true rfl, Nat.le_of_ble_eq_true rfl⟩) hK hN (hP.sub [3, 4, 5, 6, 7, 8, 9, 10] (xf_now _ _ _ _ _ _ _ _ _ _ _ _)) 0 3 rfl rfl rfl hl.1 rfl (Nat.le_of_ble_eq_true rfl) ⟨Nat.zero_le _, Nat.zero_le _⟩ dX4_film_86 (fun r86 hw86 => ?_)
              rcases hw86 with ⟨rfl, hy86⟩ | ⟨rfl, hn86⟩
              · skip
                refine lv_if_eq (tgt := 116) hx hb dX4_film_89 (by decide) (fun c9 => absurd c9 (by decide)) (fun _ => ?_)
                have hm89 := cnt_mono (sdb (wn.2 7) (wn.2 8) (wn.2 4 a1)) (a := k + 1) (b := nl) (by omega)
                rw [cnt_t (by assumption)] at hm89
                refine lv_aload_n hx hb dX4_film_92 rfl (lv_at hl 0 rfl) ?_
                refine va_get (D := gD G) (ci := 4) (v := .ref (h 70)) (C := RX4) (T := TX4) (N := 9) hx hb hts hiX4 hown hK hP 0 (xp_0 _ _ _ _ _ _ _ _ _ _ _ _) rfl 5 (by decide) k37 (fun _ h9 => h9) rfl dX4_film_93 ?_
                refine va_getN (D := gD G) (ci := 2) (v := .ref (h 71)) (C := RX2) (T := TX2) (N := 2) hx hb hts hiX2 hown hK hP 47 (xp_47 _ _ _ _ _ _ _ _ _ _ _ _) rfl 0 (by decide) k229 (fun _ h9 => h9) rfl dX4_film_96 ?_
                refine lv_iload_n hx hb dX4_film_99 rfl (lv_at hl 2 rfl) ?_
                refine aaldJ (f := fun i => some (h (70 + (3 + i)))) (n := 4) (k := 0) (b := h 73) hx hb hK hP 48 (xp_48 _ _ _ _ _ _ _ _ _ _ _ _) rfl (by decide) rfl dX4_film_100 ?_
                refine lv_iload hx hb dX4_film_101 (lv_at hl 4 rfl) ?_
                refine lv_aload_n hx hb dX4_film_103 rfl (lv_at hl 0 rfl) ?_
                refine va_get (D := gD G) (ci := 4) (v := .ref (h 10)) (C := RX4) (T := TX4) (N := 9) hx hb hts hiX4 hown hK hP 0 (xp_0 _ _ _ _ _ _ _ _ _ _ _ _) rfl 0 (by decide) k10 (fun _ h9 => h9) rfl dX4_film_104 ?_
                refine lv_iload hx hb dX4_film_107 (lv_at hl 5 rfl) ?_
                refine cRl (w := wv G (fun k => h (10 + k)) wn) (As := [.int (nI k)]) (rest := [.int (nI pp), .ref (h 73)]) ⟨hx, hb, hml, hown, hts⟩ (mt_X3_pictureOf l G (fun k => h (10 + k)) wn nv k (hnv) (by first | assumption | omega) (by first | assumption | omega)) (cwV 1 hts gX4_film_X3_pictureOf rfl rfl rfl (by decide +kernel) ⟨Nat.le_of_ble_eq_true rfl, Nat.le_of_ble_eq_true rfl⟩) hK hN (hP.sub [3, 4, 5, 6, 7, 8, 9, 10] (xf_now _ _ _ _ _ _ _ _ _ _ _ _)) 0 3 rfl rfl rfl hl.1 rfl (Nat.le_of_ble_eq_true rfl) ⟨Nat.zero_le _, Nat.zero_le _⟩ dX4_film_109 (fun r109 hw109 => ?_)
                refine lastN (f := jk 0) (n := 40) (k := pp) hx hb hK hP hD hS 50 (xp_50 _ _ _ _ _ _ _ _ _ _ _ _) rfl (by omega) dX4_film_112 (fun H locs hP hD hS => ?_)
                rw [xs_50] at hP hD
                have hP : PP G (xw G h x wn wa w0 w1 rd wr z (va_up jk 0 (vp_updL (jk 0) pp r109)) lt) H := hP
                have hD : va_D A (xw G h x wn wa w0 w1 rd wr z (va_up jk 0 (vp_updL (jk 0) pp r109)) lt) := hD
                refine lv_iinc (v := nI (pp + 1)) (lv' := [(6, .int (nI (pp + 1))), (0, .ref (h 0)), (1, .int (nI a1)), (2, .int (nI 0)), (4, .int (nI (cnt (sdb (wn.2 7) (wn.2 8) (wn.2 4 a1)) nl))), (7, .int (nI k))]) hx hb dX4_film_113 hl (k := 4) rfl (nI_1 pp) (by decide) rfl (fun ls hl => ?_)
                refine lv_iinc (v := nI (k + 1)) (lv' := [(7, .int (nI (k + 1))), (6, .int (nI (pp + 1))), (0, .ref (h 0)), (1, .int (nI a1)), (2, .int (nI 0)), (4, .int (nI (cnt (sdb (wn.2 7) (wn.2 8) (wn.2 4 a1)) nl)))]) hx hb dX4_film_116 hl (k := 5) rfl (nI_1 k) (by decide) rfl (fun ls hl => ?_)
                refine lv_goto (tgt := 59) hx hb dX4_film_119 (by decide) ?_
                exact ih59 (k + 1) (pp + 1) (va_up jk 0 (vp_updL (jk 0) pp r109)) (by first | assumption | omega) (by first | rfl | omega | (rw [cnt_t (by assumption)]; omega) | (rw [cnt_f (by assumption)]; omega)) (by omega) _ _ ls hP hD hS (lv_sub hl [2, 3, 4, 5, 1, 0] rfl)
              · skip
                refine lv_if_eq (tgt := 116) hx hb dX4_film_89 (by decide) (fun _ => ?_) (fun c9 => absurd (by decide) c9)
                refine lv_iinc (v := nI (k + 1)) (lv' := [(7, .int (nI (k + 1))), (0, .ref (h 0)), (1, .int (nI a1)), (2, .int (nI 0)), (4, .int (nI (cnt (sdb (wn.2 7) (wn.2 8) (wn.2 4 a1)) nl))), (6, .int (nI pp))]) hx hb dX4_film_116 hl (k := 5) rfl (nI_1 k) (by decide) rfl (fun ls hl => ?_)
                refine lv_goto (tgt := 59) hx hb dX4_film_119 (by decide) ?_
                exact ih59 (k + 1) pp jk (by first | assumption | omega) (by first | rfl | omega | (rw [cnt_t (by assumption)]; omega) | (rw [cnt_f (by assumption)]; omega)) (by omega) _ _ ls hP hD hS (lv_sub hl [1, 2, 3, 4, 5, 0] rfl)
        exact LP59 (nl - 0 + 1) 0 ji40 jj (by first | assumption | omega) (by first | rfl | omega | (rw [cnt_t (by assumption)]; omega) | (rw [cnt_f (by assumption)]; omega)) (Nat.lt_succ_self _) _ _ ls hP hD hS (lv_sub hl [4, 5, 6, 3, 1, 0] rfl)
      · skip
        refine lv_iload_n hx hb dX4_film_53 rfl (lv_at hl 5 rfl) ?_
        refine lv_istore (lv' := [(6, .int (nI ji40)), (5, .int (0 : Int32)), (4, .int (nI (cnt (sdb (wn.2 7) (wn.2 8) ((wn.2 4) a1)) nl))), (0, .ref (h 0)), (1, .int (nI a1)), (2, .int (nI 1)), (3, .int (nI ji40))]) hx hb dX4_film_54 hl (by decide) rfl (fun ls hl => ?_)
        refine lv_iconst (v := nI 0) hx hb dX4_film_56 (by decide) ?_
        refine lv_istore (lv' := [(7, .int (nI 0)), (6, .int (nI ji40)), (5, .int (0 : Int32)), (4, .int (nI (cnt (sdb (wn.2 7) (wn.2 8) ((wn.2 4) a1)) nl))), (0, .ref (h 0)), (1, .int (nI a1)), (2, .int (nI 1)), (3, .int (nI ji40))]) hx hb dX4_film_57 hl (by decide) rfl (fun ls hl => ?_)
        have LP59 : ∀ (n59m : Nat), ∀ (k : Nat) (pp : Nat) (jk : Nat → Nat → Int64) (hk : k ≤ nl) (hp : pp = ji40 + cnt (sdb (wn.2 7) (wn.2 8) (wn.2 4 a1)) k), (nl - k < n59m) → ∀ (H : Heap) (locs : List Loc) (ls : Array Slot), PP G (xw G h x wn wa w0 w1 rd wr z jk lt) H → va_D A (xw G h x wn wa w0 w1 rd wr z jk lt) → va_S A s.heap H locs → lv_has ls 8 [(0, .ref (h 0)), (1, .int (nI a1)), (2, .int (nI 1)), (4, .int (nI (cnt (sdb (wn.2 7) (wn.2 8) (wn.2 4 a1)) nl))), (6, .int (nI pp)), (7, .int (nI k))] → W p l e (headSpec wsX4_film ({ frames := 3, cells := 0, slots := 0, locals := 67 })).room s m ([.ref (h 0), .int (nI a1), .int (nI 1), .int (nI ji40)] : List Value).toArray below meth c H locs 0 0 (MQ below (va_Qi (fun (r : Int32) (v : oS × oS × oS × oS × oS × oS × oS × oS × (Nat → Nat → Int64) × Int64) => XQ x rd z v) (fun v t => PP G (xw G h v.1 v.2.1 v.2.2.1 v.2.2.2.1 v.2.2.2.2.1 v.2.2.2.2.2.1 v.2.2.2.2.2.2.1 v.2.2.2.2.2.2.2.1 v.2.2.2.2.2.2.2.2.1 v.2.2.2.2.2.2.2.2.2) t.heap) A) ([.ref (h 0), .int (nI a1), .int (nI 1), .int (nI ji40)] : List Value).toArray s 0 0 A) (F0 m 59 ls []) := by
          intro n59m
          induction n59m with
          | zero => intro k pp jk hk hp hmu H locs ls hP hD hS hl; exact absurd hmu (Nat.not_lt_zero _)
          | succ n59m ih59 =>
            intro k pp jk hk hp hmu H locs ls hP hD hS hl
            refine lv_iload hx hb dX4_film_59 (lv_at hl 5 rfl) ?_
            refine lv_aload_n hx hb dX4_film_61 rfl (lv_at hl 0 rfl) ?_
            refine va_get (D := gD G) (ci := 4) (v := .ref (h 10)) (C := RX4) (T := TX4) (N := 9) hx hb hts hiX4 hown hK hP 0 (xp_0 _ _ _ _ _ _ _ _ _ _ _ _) rfl 0 (by decide) k10 (fun _ h9 => h9) rfl dX4_film_62 ?_
            refine va_getN (D := gD G) (ci := 3) (v := .int (wn.1 5)) (C := RX3) (T := TX3) (N := 9) hx hb hts hiX3 hown hK hP 3 (xp_3 _ _ _ _ _ _ _ _ _ _ _ _) rfl 5 (by decide) k85 (fun _ h9 => h9) rfl dX4_film_65 ?_
            refine topE hnl ?_
            refine lv_icmp_ge (tgt := 122) hx hb dX4_film_68 (by decide) (fun c68 => ?_) (fun c68 => ?_)
            · skip
              have n68 : nl ≤ k := (nI_leI (a := nl) (b := k) (by omega) (by omega)).mp c68
              refine lv_iload hx hb dX4_film_122 (lv_at hl 3 rfl) ?_
              exact W.iret (v := nI (cnt (sdb (wn.2 7) (wn.2 8) (wn.2 4 a1)) nl)) hx hb hr (fun t ht hW => ⟨⟨nI (cnt (sdb (wn.2 7) (wn.2 8) (wn.2 4 a1)) nl), (x, wn, wa, w0, w1, rd, wr, z, jk, lt), rfl, ⟨_, _, _, _, _, _, _, _, _, _, rfl, ⟨nv, nl, hnv, by omega, hnl, by omega⟩, ⟨nva, nla, hnva, by omega, hnla, by omega⟩, ⟨nv0, nl0, hnv0, by omega, hnl0, by omega⟩, ⟨nv1, nl1, hnv1, by omega, hnl1, by omega⟩, rfl, rfl, rfl, rfl⟩, show PP G (xw G h x wn wa w0 w1 rd wr z jk lt) t.heap by rw [ht]; exact hP⟩, hS.F ht⟩) hS.2.2 dX4_film_124
            · skip
              have n68 : ¬ (nl ≤ k) := fun q9 => c68 ((nI_leI (a := nl) (b := k) (by omega) (by omega)).mpr q9)
              refine lv_aload_n hx hb dX4_film_71 rfl (lv_at hl 0 rfl) ?_
              refine va_get (D := gD G) (ci := 4) (v := .ref (h 10)) (C := RX4) (T := TX4) (N := 9) hx hb hts hiX4 hown hK hP 0 (xp_0 _ _ _ _ _ _ _ _ _ _ _ _) rfl 0 (by decide) k10 (fun _ h9 => h9) rfl dX4_film_72 ?_
              refine lv_iload hx hb dX4_film_75 (lv_at hl 5 rfl) ?_
              refine lv_aload_n hx hb dX4_film_77 rfl (lv_at hl 0 rfl) ?_
              refine va_get (D := gD G) (ci := 4) (v := .ref (h 10)) (C := RX4) (T := TX4) (N := 9) hx hb hts hiX4 hown hK hP 0 (xp_0 _ _ _ _ _ _ _ _ _ _ _ _) rfl 0 (by decide) k10 (fun _ h9 => h9) rfl dX4_film_78 ?_
              refine va_getN (D := gD G) (ci := 3) (v := .ref (h 14)) (C := RX3) (T := TX3) (N := 9) hx hb hts hiX3 hown hK hP 3 (xp_3 _ _ _ _ _ _ _ _ _ _ _ _) rfl 4 (by decide) k115 (fun _ h9 => h9) rfl dX4_film_81 ?_
              refine lv_iload_n hx hb dX4_film_84 rfl (lv_at hl 1 rfl) ?_
              refine ialdN (f := wn.2 4) (n := 24) (k := a1) hx hb hK hP 7 (xp_7 _ _ _ _ _ _ _ _ _ _ _ _) rfl (by omega) dX4_film_85 ?_
              refine cRi (w := wv G (fun k => h (10 + k)) wn) (As := [.int (nI k), .int ((wn.2 4) a1)]) (rest := []) ⟨hx, hb, hml, hown, hts⟩ (mt_X3_stands l G (fun k => h (10 + k)) wn k ((wn.2 4) a1) (by first | assumption | omega)) (cwV 2 hts gX4_film_X3_stands rfl rfl rfl (by decide +kernel) ⟨Nat.le_of_ble_eq_true rfl, Nat.le_of_ble_eq_true rfl⟩) hK hN (hP.sub [3, 4, 5, 6, 7, 8, 9, 10] (xf_now _ _ _ _ _ _ _ _ _ _ _ _)) 0 3 rfl rfl rfl hl.1 rfl (Nat.le_of_ble_eq_true rfl) ⟨Nat.zero_le _, Nat.zero_le _⟩ dX4_film_86 (fun r86 hw86 => ?_)
              rcases hw86 with ⟨rfl, hy86⟩ | ⟨rfl, hn86⟩
              · skip
                refine lv_if_eq (tgt := 116) hx hb dX4_film_89 (by decide) (fun c9 => absurd c9 (by decide)) (fun _ => ?_)
                have hm89 := cnt_mono (sdb (wn.2 7) (wn.2 8) (wn.2 4 a1)) (a := k + 1) (b := nl) (by omega)
                rw [cnt_t (by assumption)] at hm89
                refine lv_aload_n hx hb dX4_film_92 rfl (lv_at hl 0 rfl) ?_
                refine va_get (D := gD G) (ci := 4) (v := .ref (h 70)) (C := RX4) (T := TX4) (N := 9) hx hb hts hiX4 hown hK hP 0 (xp_0 _ _ _ _ _ _ _ _ _ _ _ _) rfl 5 (by decide) k37 (fun _ h9 => h9) rfl dX4_film_93 ?_
                refine va_getN (D := gD G) (ci := 2) (v := .ref (h 71)) (C := RX2) (T := TX2) (N := 2) hx hb hts hiX2 hown hK hP 47 (xp_47 _ _ _ _ _ _ _ _ _ _ _ _) rfl 0 (by decide) k229 (fun _ h9 => h9) rfl dX4_film_96 ?_
                refine lv_iload_n hx hb dX4_film_99 rfl (lv_at hl 2 rfl) ?_
                refine aaldJ (f := fun i => some (h (70 + (3 + i)))) (n := 4) (k := 1) (b := h 74) hx hb hK hP 48 (xp_48 _ _ _ _ _ _ _ _ _ _ _ _) rfl (by decide) rfl dX4_film_100 ?_
                refine lv_iload hx hb dX4_film_101 (lv_at hl 4 rfl) ?_
                refine lv_aload_n hx hb dX4_film_103 rfl (lv_at hl 0 rfl) ?_
                refine va_get (D := gD G) (ci := 4) (v := .ref (h 10)) (C := RX4) (T := TX4) (N := 9) hx hb hts hiX4 hown hK hP 0 (xp_0 _ _ _ _ _ _ _ _ _ _ _ _) rfl 0 (by decide) k10 (fun _ h9 => h9) rfl dX4_film_104 ?_
                refine lv_iload hx hb dX4_film_107 (lv_at hl 5 rfl) ?_
                refine cRl (w := wv G (fun k => h (10 + k)) wn) (As := [.int (nI k)]) (rest := [.int (nI pp), .ref (h 74)]) ⟨hx, hb, hml, hown, hts⟩ (mt_X3_pictureOf l G (fun k => h (10 + k)) wn nv k (hnv) (by first | assumption | omega) (by first | assumption | omega)) (cwV 1 hts gX4_film_X3_pictureOf rfl rfl rfl (by decide +kernel) ⟨Nat.le_of_ble_eq_true rfl, Nat.le_of_ble_eq_true rfl⟩) hK hN (hP.sub [3, 4, 5, 6, 7, 8, 9, 10] (xf_now _ _ _ _ _ _ _ _ _ _ _ _)) 0 3 rfl rfl rfl hl.1 rfl (Nat.le_of_ble_eq_true rfl) ⟨Nat.zero_le _, Nat.zero_le _⟩ dX4_film_109 (fun r109 hw109 => ?_)
                refine lastN (f := jk 1) (n := 40) (k := pp) hx hb hK hP hD hS 51 (xp_51 _ _ _ _ _ _ _ _ _ _ _ _) rfl (by omega) dX4_film_112 (fun H locs hP hD hS => ?_)
                rw [xs_51] at hP hD
                have hP : PP G (xw G h x wn wa w0 w1 rd wr z (va_up jk 1 (vp_updL (jk 1) pp r109)) lt) H := hP
                have hD : va_D A (xw G h x wn wa w0 w1 rd wr z (va_up jk 1 (vp_updL (jk 1) pp r109)) lt) := hD
                refine lv_iinc (v := nI (pp + 1)) (lv' := [(6, .int (nI (pp + 1))), (0, .ref (h 0)), (1, .int (nI a1)), (2, .int (nI 1)), (4, .int (nI (cnt (sdb (wn.2 7) (wn.2 8) (wn.2 4 a1)) nl))), (7, .int (nI k))]) hx hb dX4_film_113 hl (k := 4) rfl (nI_1 pp) (by decide) rfl (fun ls hl => ?_)
                refine lv_iinc (v := nI (k + 1)) (lv' := [(7, .int (nI (k + 1))), (6, .int (nI (pp + 1))), (0, .ref (h 0)), (1, .int (nI a1)), (2, .int (nI 1)), (4, .int (nI (cnt (sdb (wn.2 7) (wn.2 8) (wn.2 4 a1)) nl)))]) hx hb dX4_film_116 hl (k := 5) rfl (nI_1 k) (by decide) rfl (fun ls hl => ?_)
                refine lv_goto (tgt := 59) hx hb dX4_film_119 (by decide) ?_
                exact ih59 (k + 1) (pp + 1) (va_up jk 1 (vp_updL (jk 1) pp r109)) (by first | assumption | omega) (by first | rfl | omega | (rw [cnt_t (by assumption)]; omega) | (rw [cnt_f (by assumption)]; omega)) (by omega) _ _ ls hP hD hS (lv_sub hl [2, 3, 4, 5, 1, 0] rfl)
              · skip
                refine lv_if_eq (tgt := 116) hx hb dX4_film_89 (by decide) (fun _ => ?_) (fun c9 => absurd (by decide) c9)
                refine lv_iinc (v := nI (k + 1)) (lv' := [(7, .int (nI (k + 1))), (0, .ref (h 0)), (1, .int (nI a1)), (2, .int (nI 1)), (4, .int (nI (cnt (sdb (wn.2 7) (wn.2 8) (wn.2 4 a1)) nl))), (6, .int (nI pp))]) hx hb dX4_film_116 hl (k := 5) rfl (nI_1 k) (by decide) rfl (fun ls hl => ?_)
                refine lv_goto (tgt := 59) hx hb dX4_film_119 (by decide) ?_
                exact ih59 (k + 1) pp jk (by first | assumption | omega) (by first | rfl | omega | (rw [cnt_t (by assumption)]; omega) | (rw [cnt_f (by assumption)]; omega)) (by omega) _ _ ls hP hD hS (lv_sub hl [1, 2, 3, 4, 5, 0] rfl)
        exact LP59 (nl - 0 + 1) 0 ji40 jj (by first | assumption | omega) (by first | rfl | omega | (rw [cnt_t (by assumption)]; omega) | (rw [cnt_f (by assumption)]; omega)) (Nat.lt_succ_self _) _ _ ls hP hD hS (lv_sub hl [4, 5, 6, 3, 1, 0] rfl)
      · skip
        refine lv_iload_n hx hb dX4_film_53 rfl (lv_at hl 5 rfl) ?_
        refine lv_istore (lv' := [(6, .int (nI ji40)), (5, .int (0 : Int32)), (4, .int (nI (cnt (sdb (wn.2 7) (wn.2 8) ((wn.2 4) a1)) nl))), (0, .ref (h 0)), (1, .int (nI a1)), (2, .int (nI 2)), (3, .int (nI ji40))]) hx hb dX4_film_54 hl (by decide) rfl (fun ls hl => ?_)
        refine lv_iconst (v := nI 0) hx hb dX4_film_56 (by decide) ?_
        refine lv_istore (lv' := [(7, .int (nI 0)), (6, .int (nI ji40)), (5, .int (0 : Int32)), (4, .int (nI (cnt (sdb (wn.2 7) (wn.2 8) ((wn.2 4) a1)) nl))), (0, .ref (h 0)), (1, .int (nI a1)), (2, .int (nI 2)), (3, .int (nI ji40))]) hx hb dX4_film_57 hl (by decide) rfl (fun ls hl => ?_)
        have LP59 : ∀ (n59m : Nat), ∀ (k : Nat) (pp : Nat) (jk : Nat → Nat → Int64) (hk : k ≤ nl) (hp : pp = ji40 + cnt (sdb (wn.2 7) (wn.2 8) (wn.2 4 a1)) k), (nl - k < n59m) → ∀ (H : Heap) (locs : List Loc) (ls : Array Slot), PP G (xw G h x wn wa w0 w1 rd wr z jk lt) H → va_D A (xw G h x wn wa w0 w1 rd wr z jk lt) → va_S A s.heap H locs → lv_has ls 8 [(0, .ref (h 0)), (1, .int (nI a1)), (2, .int (nI 2)), (4, .int (nI (cnt (sdb (wn.2 7) (wn.2 8) (wn.2 4 a1)) nl))), (6, .int (nI pp)), (7, .int (nI k))] → W p l e (headSpec wsX4_film ({ frames := 3, cells := 0, slots := 0, locals := 67 })).room s m ([.ref (h 0), .int (nI a1), .int (nI 2), .int (nI ji40)] : List Value).toArray below meth c H locs 0 0 (MQ below (va_Qi (fun (r : Int32) (v : oS × oS × oS × oS × oS × oS × oS × oS × (Nat → Nat → Int64) × Int64) => XQ x rd z v) (fun v t => PP G (xw G h v.1 v.2.1 v.2.2.1 v.2.2.2.1 v.2.2.2.2.1 v.2.2.2.2.2.1 v.2.2.2.2.2.2.1 v.2.2.2.2.2.2.2.1 v.2.2.2.2.2.2.2.2.1 v.2.2.2.2.2.2.2.2.2) t.heap) A) ([.ref (h 0), .int (nI a1), .int (nI 2), .int (nI ji40)] : List Value).toArray s 0 0 A) (F0 m 59 ls []) := by
          intro n59m
          induction n59m with
          | zero => intro k pp jk hk hp hmu H locs ls hP hD hS hl; exact absurd hmu (Nat.not_lt_zero _)
          | succ n59m ih59 =>
            intro k pp jk hk hp hmu H locs ls hP hD hS hl
            refine lv_iload hx hb dX4_film_59 (lv_at hl 5 rfl) ?_
            refine lv_aload_n hx hb dX4_film_61 rfl (lv_at hl 0 rfl) ?_
            refine va_get (D := gD G) (ci := 4) (v := .ref (h 10)) (C := RX4) (T := TX4) (N := 9) hx hb hts hiX4 hown hK hP 0 (xp_0 _ _ _ _ _ _ _ _ _ _ _ _) rfl 0 (by decide) k10 (fun _ h9 => h9) rfl dX4_film_62 ?_
            refine va_getN (D := gD G) (ci := 3) (v := .int (wn.1 5)) (C := RX3) (T := TX3) (N := 9) hx hb hts hiX3 hown hK hP 3 (xp_3 _ _ _ _ _ _ _ _ _ _ _ _) rfl 5 (by decide) k85 (fun _ h9 => h9) rfl dX4_film_65 ?_
            refine topE hnl ?_
            refine lv_icmp_ge (tgt := 122) hx hb dX4_film_68 (by decide) (fun c68 => ?_) (fun c68 => ?_)
            · skip
              have n68 : nl ≤ k := (nI_leI (a := nl) (b := k) (by omega) (by omega)).mp c68
              refine lv_iload hx hb dX4_film_122 (lv_at hl 3 rfl) ?_
              exact W.iret (v := nI (cnt (sdb (wn.2 7) (wn.2 8) (wn.2 4 a1)) nl)) hx hb hr (fun t ht hW => ⟨⟨nI (cnt (sdb (wn.2 7) (wn.2 8) (wn.2 4 a1)) nl), (x, wn, wa, w0, w1, rd, wr, z, jk, lt), rfl, ⟨_, _, _, _, _, _, _, _, _, _, rfl, ⟨nv, nl, hnv, by omega, hnl, by omega⟩, ⟨nva, nla, hnva, by omega, hnla, by omega⟩, ⟨nv0, nl0, hnv0, by omega, hnl0, by omega⟩, ⟨nv1, nl1, hnv1, by omega, hnl1, by omega⟩, rfl, rfl, rfl, rfl⟩, show PP G (xw G h x wn wa w0 w1 rd wr z jk lt) t.heap by rw [ht]; exact hP⟩, hS.F ht⟩) hS.2.2 dX4_film_124
            · skip
              have n68 : ¬ (nl ≤ k) := fun q9 => c68 ((nI_leI (a := nl) (b := k) (by omega) (by omega)).mpr q9)
              refine lv_aload_n hx hb dX4_film_71 rfl (lv_at hl 0 rfl) ?_
              refine va_get (D := gD G) (ci := 4) (v := .ref (h 10)) (C := RX4) (T := TX4) (N := 9) hx hb hts hiX4 hown hK hP 0 (xp_0 _ _ _ _ _ _ _ _ _ _ _ _) rfl 0 (by decide) k10 (fun _ h9 => h9) rfl dX4_film_72 ?_
              refine lv_iload hx hb dX4_film_75 (lv_at hl 5 rfl) ?_
              refine lv_aload_n hx hb dX4_film_77 rfl (lv_at hl 0 rfl) ?_
              refine va_get (D := gD G) (ci := 4) (v := .ref (h 10)) (C := RX4) (T := TX4) (N := 9) hx hb hts hiX4 hown hK hP 0 (xp_0 _ _ _ _ _ _ _ _ _ _ _ _) rfl 0 (by decide) k10 (fun _ h9 => h9) rfl dX4_film_78 ?_
              refine va_getN (D := gD G) (ci := 3) (v := .ref (h 14)) (C := RX3) (T := TX3) (N := 9) hx hb hts hiX3 hown hK hP 3 (xp_3 _ _ _ _ _ _ _ _ _ _ _ _) rfl 4 (by decide) k115 (fun _ h9 => h9) rfl dX4_film_81 ?_
              refine lv_iload_n hx hb dX4_film_84 rfl (lv_at hl 1 rfl) ?_
              refine ialdN (f := wn.2 4) (n := 24) (k := a1) hx hb hK hP 7 (xp_7 _ _ _ _ _ _ _ _ _ _ _ _) rfl (by omega) dX4_film_85 ?_
              refine cRi (w := wv G (fun k => h (10 + k)) wn) (As := [.int (nI k), .int ((wn.2 4) a1)]) (rest := []) ⟨hx, hb, hml, hown, hts⟩ (mt_X3_stands l G (fun k => h (10 + k)) wn k ((wn.2 4) a1) (by first | assumption | omega)) (cwV 2 hts gX4_film_X3_stands rfl rfl rfl (by decide +kernel) ⟨Nat.le_of_ble_eq_true rfl, Nat.le_of_ble_eq_true rfl⟩) hK hN (hP.sub [3, 4, 5, 6, 7, 8, 9, 10] (xf_now _ _ _ _ _ _ _ _ _ _ _ _)) 0 3 rfl rfl rfl hl.1 rfl (Nat.le_of_ble_eq_true rfl) ⟨Nat.zero_le _, Nat.zero_le _⟩ dX4_film_86 (fun r86 hw86 => ?_)
              rcases hw86 with ⟨rfl, hy86⟩ | ⟨rfl, hn86⟩
              · skip
                refine lv_if_eq (tgt := 116) hx hb dX4_film_89 (by decide) (fun c9 => absurd c9 (by decide)) (fun _ => ?_)
                have hm89 := cnt_mono (sdb (wn.2 7) (wn.2 8) (wn.2 4 a1)) (a := k + 1) (b := nl) (by omega)
                rw [cnt_t (by assumption)] at hm89
                refine lv_aload_n hx hb dX4_film_92 rfl (lv_at hl 0 rfl) ?_
                refine va_get (D := gD G) (ci := 4) (v := .ref (h 70)) (C := RX4) (T := TX4) (N := 9) hx hb hts hiX4 hown hK hP 0 (xp_0 _ _ _ _ _ _ _ _ _ _ _ _) rfl 5 (by decide) k37 (fun _ h9 => h9) rfl dX4_film_93 ?_
                refine va_getN (D := gD G) (ci := 2) (v := .ref (h 71)) (C := RX2) (T := TX2) (N := 2) hx hb hts hiX2 hown hK hP 47 (xp_47 _ _ _ _ _ _ _ _ _ _ _ _) rfl 0 (by decide) k229 (fun _ h9 => h9) rfl dX4_film_96 ?_
                refine lv_iload_n hx hb dX4_film_99 rfl (lv_at hl 2 rfl) ?_
                refine aaldJ (f := fun i => some (h (70 + (3 + i)))) (n := 4) (k := 2) (b := h 75) hx hb hK hP 48 (xp_48 _ _ _ _ _ _ _ _ _ _ _ _) rfl (by decide) rfl dX4_film_100 ?_
                refine lv_iload hx hb dX4_film_101 (lv_at hl 4 rfl) ?_
                refine lv_aload_n hx hb dX4_film_103 rfl (lv_at hl 0 rfl) ?_
                refine va_get (D := gD G) (ci := 4) (v := .ref (h 10)) (C := RX4) (T := TX4) (N := 9) hx hb hts hiX4 hown hK hP 0 (xp_0 _ _ _ _ _ _ _ _ _ _ _ _) rfl 0 (by decide) k10 (fun _ h9 => h9) rfl dX4_film_104 ?_
                refine lv_iload hx hb dX4_film_107 (lv_at hl 5 rfl) ?_
                refine cRl (w := wv G (fun k => h (10 + k)) wn) (As := [.int (nI k)]) (rest := [.int (nI pp), .ref (h 75)]) ⟨hx, hb, hml, hown, hts⟩ (mt_X3_pictureOf l G (fun k => h (10 + k)) wn nv k (hnv) (by first | assumption | omega) (by first | assumption | omega)) (cwV 1 hts gX4_film_X3_pictureOf rfl rfl rfl (by decide +kernel) ⟨Nat.le_of_ble_eq_true rfl, Nat.le_of_ble_eq_true rfl⟩) hK hN (hP.sub [3, 4, 5, 6, 7, 8, 9, 10] (xf_now _ _ _ _ _ _ _ _ _ _ _ _)) 0 3 rfl rfl rfl hl.1 rfl (Nat.le_of_ble_eq_true rfl) ⟨Nat.zero_le _, Nat.zero_le _⟩ dX4_film_109 (fun r109 hw109 => ?_)
                refine lastN (f := jk 2) (n := 40) (k := pp) hx hb hK hP hD hS 52 (xp_52 _ _ _ _ _ _ _ _ _ _ _ _) rfl (by omega) dX4_film_112 (fun H locs hP hD hS => ?_)
                rw [xs_52] at hP hD
                have hP : PP G (xw G h x wn wa w0 w1 rd wr z (va_up jk 2 (vp_updL (jk 2) pp r109)) lt) H := hP
                have hD : va_D A (xw G h x wn wa w0 w1 rd wr z (va_up jk 2 (vp_updL (jk 2) pp r109)) lt) := hD
                refine lv_iinc (v := nI (pp + 1)) (lv' := [(6, .int (nI (pp + 1))), (0, .ref (h 0)), (1, .int (nI a1)), (2, .int (nI 2)), (4, .int (nI (cnt (sdb (wn.2 7) (wn.2 8) (wn.2 4 a1)) nl))), (7, .int (nI k))]) hx hb dX4_film_113 hl (k := 4) rfl (nI_1 pp) (by decide) rfl (fun ls hl => ?_)
                refine lv_iinc (v := nI (k + 1)) (lv' := [(7, .int (nI (k + 1))), (6, .int (nI (pp + 1))), (0, .ref (h 0)), (1, .int (nI a1)), (2, .int (nI 2)), (4, .int (nI (cnt (sdb (wn.2 7) (wn.2 8) (wn.2 4 a1)) nl)))]) hx hb dX4_film_116 hl (k := 5) rfl (nI_1 k) (by decide) rfl (fun ls hl => ?_)
                refine lv_goto (tgt := 59) hx hb dX4_film_119 (by decide) ?_
                exact ih59 (k + 1) (pp + 1) (va_up jk 2 (vp_updL (jk 2) pp r109)) (by first | assumption | omega) (by first | rfl | omega | (rw [cnt_t (by assumption)]; omega) | (rw [cnt_f (by assumption)]; omega)) (by omega) _ _ ls hP hD hS (lv_sub hl [2, 3, 4, 5, 1, 0] rfl)
              · skip
                refine lv_if_eq (tgt := 116) hx hb dX4_film_89 (by decide) (fun _ => ?_) (fun c9 => absurd (by decide) c9)
                refine lv_iinc (v := nI (k + 1)) (lv' := [(7, .int (nI (k + 1))), (0, .ref (h 0)), (1, .int (nI a1)), (2, .int (nI 2)), (4, .int (nI (cnt (sdb (wn.2 7) (wn.2 8) (wn.2 4 a1)) nl))), (6, .int (nI pp))]) hx hb dX4_film_116 hl (k := 5) rfl (nI_1 k) (by decide) rfl (fun ls hl => ?_)
                refine lv_goto (tgt := 59) hx hb dX4_film_119 (by decide) ?_
                exact ih59 (k + 1) pp jk (by first | assumption | omega) (by first | rfl | omega | (rw [cnt_t (by assumption)]; omega) | (rw [cnt_f (by assumption)]; omega)) (by omega) _ _ ls hP hD hS (lv_sub hl [1, 2, 3, 4, 5, 0] rfl)
        exact LP59 (nl - 0 + 1) 0 ji40 jj (by first | assumption | omega) (by first | rfl | omega | (rw [cnt_t (by assumption)]; omega) | (rw [cnt_f (by assumption)]; omega)) (Nat.lt_succ_self _) _ _ ls hP hD hS (lv_sub hl [4, 5, 6, 3, 1, 0] rfl)
      · skip
        refine lv_iload_n hx hb dX4_film_53 rfl (lv_at hl 5 rfl) ?_
        refine lv_istore (lv' := [(6, .int (nI ji40)), (5, .int (0 : Int32)), (4, .int (nI (cnt (sdb (wn.2 7) (wn.2 8) ((wn.2 4) a1)) nl))), (0, .ref (h 0)), (1, .int (nI a1)), (2, .int (nI 3)), (3, .int (nI ji40))]) hx hb dX4_film_54 hl (by decide) rfl (fun ls hl => ?_)
        refine lv_iconst (v := nI 0) hx hb dX4_film_56 (by decide) ?_
        refine lv_istore (lv' := [(7, .int (nI 0)), (6, .int (nI ji40)), (5, .int (0 : Int32)), (4, .int (nI (cnt (sdb (wn.2 7) (wn.2 8) ((wn.2 4) a1)) nl))), (0, .ref (h 0)), (1, .int (nI a1)), (2, .int (nI 3)), (3, .int (nI ji40))]) hx hb dX4_film_57 hl (by decide) rfl (fun ls hl => ?_)
        have LP59 : ∀ (n59m : Nat), ∀ (k : Nat) (pp : Nat) (jk : Nat → Nat → Int64) (hk : k ≤ nl) (hp : pp = ji40 + cnt (sdb (wn.2 7) (wn.2 8) (wn.2 4 a1)) k), (nl - k < n59m) → ∀ (H : Heap) (locs : List Loc) (ls : Array Slot), PP G (xw G h x wn wa w0 w1 rd wr z jk lt) H → va_D A (xw G h x wn wa w0 w1 rd wr z jk lt) → va_S A s.heap H locs → lv_has ls 8 [(0, .ref (h 0)), (1, .int (nI a1)), (2, .int (nI 3)), (4, .int (nI (cnt (sdb (wn.2 7) (wn.2 8) (wn.2 4 a1)) nl))), (6, .int (nI pp)), (7, .int (nI k))] → W p l e (headSpec wsX4_film ({ frames := 3, cells := 0, slots := 0, locals := 67 })).room s m ([.ref (h 0), .int (nI a1), .int (nI 3), .int (nI ji40)] : List Value).toArray below meth c H locs 0 0 (MQ below (va_Qi (fun (r : Int32) (v : oS × oS × oS × oS × oS × oS × oS × oS × (Nat → Nat → Int64) × Int64) => XQ x rd z v) (fun v t => PP G (xw G h v.1 v.2.1 v.2.2.1 v.2.2.2.1 v.2.2.2.2.1 v.2.2.2.2.2.1 v.2.2.2.2.2.2.1 v.2.2.2.2.2.2.2.1 v.2.2.2.2.2.2.2.2.1 v.2.2.2.2.2.2.2.2.2) t.heap) A) ([.ref (h 0), .int (nI a1), .int (nI 3), .int (nI ji40)] : List Value).toArray s 0 0 A) (F0 m 59 ls []) := by
          intro n59m
          induction n59m with
          | zero => intro k pp jk hk hp hmu H locs ls hP hD hS hl; exact absurd hmu (Nat.not_lt_zero _)
          | succ n59m ih59 =>
            intro k pp jk hk hp hmu H locs ls hP hD hS hl
            refine lv_iload hx hb dX4_film_59 (lv_at hl 5 rfl) ?_
            refine lv_aload_n hx hb dX4_film_61 rfl (lv_at hl 0 rfl) ?_
            refine va_get (D := gD G) (ci := 4) (v := .ref (h 10)) (C := RX4) (T := TX4) (N := 9) hx hb hts hiX4 hown hK hP 0 (xp_0 _ _ _ _ _ _ _ _ _ _ _ _) rfl 0 (by decide) k10 (fun _ h9 => h9) rfl dX4_film_62 ?_
            refine va_getN (D := gD G) (ci := 3) (v := .int (wn.1 5)) (C := RX3) (T := TX3) (N := 9) hx hb hts hiX3 hown hK hP 3 (xp_3 _ _ _ _ _ _ _ _ _ _ _ _) rfl 5 (by decide) k85 (fun _ h9 => h9) rfl dX4_film_65 ?_
            refine topE hnl ?_
            refine lv_icmp_ge (tgt := 122) hx hb dX4_film_68 (by decide) (fun c68 => ?_) (fun c68 => ?_)
            · skip
              have n68 : nl ≤ k := (nI_leI (a := nl) (b := k) (by omega) (by omega)).mp c68
              refine lv_iload hx hb dX4_film_122 (lv_at hl 3 rfl) ?_
              exact W.iret (v := nI (cnt (sdb (wn.2 7) (wn.2 8) (wn.2 4 a1)) nl)) hx hb hr (fun t ht hW => ⟨⟨nI (cnt (sdb (wn.2 7) (wn.2 8) (wn.2 4 a1)) nl), (x, wn, wa, w0, w1, rd, wr, z, jk, lt), rfl, ⟨_, _, _, _, _, _, _, _, _, _, rfl, ⟨nv, nl, hnv, by omega, hnl, by omega⟩, ⟨nva, nla, hnva, by omega, hnla, by omega⟩, ⟨nv0, nl0, hnv0, by omega, hnl0, by omega⟩, ⟨nv1, nl1, hnv1, by omega, hnl1, by omega⟩, rfl, rfl, rfl, rfl⟩, show PP G (xw G h x wn wa w0 w1 rd wr z jk lt) t.heap by rw [ht]; exact hP⟩, hS.F ht⟩) hS.2.2 dX4_film_124
            · skip
              have n68 : ¬ (nl ≤ k) := fun q9 => c68 ((nI_leI (a := nl) (b := k) (by omega) (by omega)).mpr q9)
              refine lv_aload_n hx hb dX4_film_71 rfl (lv_at hl 0 rfl) ?_
              refine va_get (D := gD G) (ci := 4) (v := .ref (h 10)) (C := RX4) (T := TX4) (N := 9) hx hb hts hiX4 hown hK hP 0 (xp_0 _ _ _ _ _ _ _ _ _ _ _ _) rfl 0 (by decide) k10 (fun _ h9 => h9) rfl dX4_film_72 ?_
              refine lv_iload hx hb dX4_film_75 (lv_at hl 5 rfl) ?_
              refine lv_aload_n hx hb dX4_film_77 rfl (lv_at hl 0 rfl) ?_
              refine va_get (D := gD G) (ci := 4) (v := .ref (h 10)) (C := RX4) (T := TX4) (N := 9) hx hb hts hiX4 hown hK hP 0 (xp_0 _ _ _ _ _ _ _ _ _ _ _ _) rfl 0 (by decide) k10 (fun _ h9 => h9) rfl dX4_film_78 ?_
              refine va_getN (D := gD G) (ci := 3) (v := .ref (h 14)) (C := RX3) (T := TX3) (N := 9) hx hb hts hiX3 hown hK hP 3 (xp_3 _ _ _ _ _ _ _ _ _ _ _ _) rfl 4 (by decide) k115 (fun _ h9 => h9) rfl dX4_film_81 ?_
              refine lv_iload_n hx hb dX4_film_84 rfl (lv_at hl 1 rfl) ?_
              refine ialdN (f := wn.2 4) (n := 24) (k := a1) hx hb hK hP 7 (xp_7 _ _ _ _ _ _ _ _ _ _ _ _) rfl (by omega) dX4_film_85 ?_
              refine cRi (w := wv G (fun k => h (10 + k)) wn) (As := [.int (nI k), .int ((wn.2 4) a1)]) (rest := []) ⟨hx, hb, hml, hown, hts⟩ (mt_X3_stands l G (fun k => h (10 + k)) wn k ((wn.2 4) a1) (by first | assumption | omega)) (cwV 2 hts gX4_film_X3_stands rfl rfl rfl (by decide +kernel) ⟨Nat.le_of_ble_eq_true rfl, Nat.le_of_ble_eq_true rfl⟩) hK hN (hP.sub [3, 4, 5, 6, 7, 8, 9, 10] (xf_now _ _ _ _ _ _ _ _ _ _ _ _)) 0 3 rfl rfl rfl hl.1 rfl (Nat.le_of_ble_eq_true rfl) ⟨Nat.zero_le _, Nat.zero_le _⟩ dX4_film_86 (fun r86 hw86 => ?_)
              rcases hw86 with ⟨rfl, hy86⟩ | ⟨rfl, hn86⟩
              · skip
                refine lv_if_eq (tgt := 116) hx hb dX4_film_89 (by decide) (fun c9 => absurd c9 (by decide)) (fun _ => ?_)
                have hm89 := cnt_mono (sdb (wn.2 7) (wn.2 8) (wn.2 4 a1)) (a := k + 1) (b := nl) (by omega)
                rw [cnt_t (by assumption)] at hm89
                refine lv_aload_n hx hb dX4_film_92 rfl (lv_at hl 0 rfl) ?_
                refine va_get (D := gD G) (ci := 4) (v := .ref (h 70)) (C := RX4) (T := TX4) (N := 9) hx hb hts hiX4 hown hK hP 0 (xp_0 _ _ _ _ _ _ _ _ _ _ _ _) rfl 5 (by decide) k37 (fun _ h9 => h9) rfl dX4_film_93 ?_
                refine va_getN (D := gD G) (ci := 2) (v := .ref (h 71)) (C := RX2) (T := TX2) (N := 2) hx hb hts hiX2 hown hK hP 47 (xp_47 _ _ _ _ _ _ _ _ _ _ _ _) rfl 0 (by decide) k229 (fun _ h9 => h9) rfl dX4_film_96 ?_
                refine lv_iload_n hx hb dX4_film_99 rfl (lv_at hl 2 rfl) ?_
                refine aaldJ (f := fun i => some (h (70 + (3 + i)))) (n := 4) (k := 3) (b := h 76) hx hb hK hP 48 (xp_48 _ _ _ _ _ _ _ _ _ _ _ _) rfl (by decide) rfl dX4_film_100 ?_
                refine lv_iload hx hb dX4_film_101 (lv_at hl 4 rfl) ?_
                refine lv_aload_n hx hb dX4_film_103 rfl (lv_at hl 0 rfl) ?_
                refine va_get (D := gD G) (ci := 4) (v := .ref (h 10)) (C := RX4) (T := TX4) (N := 9) hx hb hts hiX4 hown hK hP 0 (xp_0 _ _ _ _ _ _ _ _ _ _ _ _) rfl 0 (by decide) k10 (fun _ h9 => h9) rfl dX4_film_104 ?_
                refine lv_iload hx hb dX4_film_107 (lv_at hl 5 rfl) ?_
                refine cRl (w := wv G (fun k => h (10 + k)) wn) (As := [.int (nI k)]) (rest := [.int (nI pp), .ref (h 76)]) ⟨hx, hb, hml, hown, hts⟩ (mt_X3_pictureOf l G (fun k => h (10 + k)) wn nv k (hnv) (by first | assumption | omega) (by first | assumption | omega)) (cwV 1 hts gX4_film_X3_pictureOf rfl rfl rfl (by decide +kernel) ⟨Nat.le_of_ble_eq_true rfl, Nat.le_of_ble_eq_true rfl⟩) hK hN (hP.sub [3, 4, 5, 6, 7, 8, 9, 10] (xf_now _ _ _ _ _ _ _ _ _ _ _ _)) 0 3 rfl rfl rfl hl.1 rfl (Nat.le_of_ble_eq_true rfl) ⟨Nat.zero_le _, Nat.zero_le _⟩ dX4_film_109 (fun r109 hw109 => ?_)
                refine lastN (f := jk 3) (n := 40) (k := pp) hx hb hK hP hD hS 53 (xp_53 _ _ _ _ _ _ _ _ _ _ _ _) rfl (by omega) dX4_film_112 (fun H locs hP hD hS => ?_)
                rw [xs_53] at hP hD
                have hP : PP G (xw G h x wn wa w0 w1 rd wr z (va_up jk 3 (vp_updL (jk 3) pp r109)) lt) H := hP
                have hD : va_D A (xw G h x wn wa w0 w1 rd wr z (va_up jk 3 (vp_updL (jk 3) pp r109)) lt) := hD
                refine lv_iinc (v := nI (pp + 1)) (lv' := [(6, .int (nI (pp + 1))), (0, .ref (h 0)), (1, .int (nI a1)), (2, .int (nI 3)), (4, .int (nI (cnt (sdb (wn.2 7) (wn.2 8) (wn.2 4 a1)) nl))), (7, .int (nI k))]) hx hb dX4_film_113 hl (k := 4) rfl (nI_1 pp) (by decide) rfl (fun ls hl => ?_)
                refine lv_iinc (v := nI (k + 1)) (lv' := [(7, .int (nI (k + 1))), (6, .int (nI (pp + 1))), (0, .ref (h 0)), (1, .int (nI a1)), (2, .int (nI 3)), (4, .int (nI (cnt (sdb (wn.2 7) (wn.2 8) (wn.2 4 a1)) nl)))]) hx hb dX4_film_116 hl (k := 5) rfl (nI_1 k) (by decide) rfl (fun ls hl => ?_)
                refine lv_goto (tgt := 59) hx hb dX4_film_119 (by decide) ?_
                exact ih59 (k + 1) (pp + 1) (va_up jk 3 (vp_updL (jk 3) pp r109)) (by first | assumption | omega) (by first | rfl | omega | (rw [cnt_t (by assumption)]; omega) | (rw [cnt_f (by assumption)]; omega)) (by omega) _ _ ls hP hD hS (lv_sub hl [2, 3, 4, 5, 1, 0] rfl)
              · skip
                refine lv_if_eq (tgt := 116) hx hb dX4_film_89 (by decide) (fun _ => ?_) (fun c9 => absurd (by decide) c9)
                refine lv_iinc (v := nI (k + 1)) (lv' := [(7, .int (nI (k + 1))), (0, .ref (h 0)), (1, .int (nI a1)), (2, .int (nI 3)), (4, .int (nI (cnt (sdb (wn.2 7) (wn.2 8) (wn.2 4 a1)) nl))), (6, .int (nI pp))]) hx hb dX4_film_116 hl (k := 5) rfl (nI_1 k) (by decide) rfl (fun ls hl => ?_)
                refine lv_goto (tgt := 59) hx hb dX4_film_119 (by decide) ?_
                exact ih59 (k + 1) pp jk (by first | assumption | omega) (by first | rfl | omega | (rw [cnt_t (by assumption)]; omega) | (rw [cnt_f (by assumption)]; omega)) (by omega) _ _ ls hP hD hS (lv_sub hl [1, 2, 3, 4, 5, 0] rfl)
        exact LP59 (nl - 0 + 1) 0 ji40 jj (by first | assumption | omega) (by first | rfl | omega | (rw [cnt_t (by assumption)]; omega) | (rw [cnt_f (by assumption)]; omega)) (Nat.lt_succ_self _) _ _ ls hP hD hS (lv_sub hl [4, 5, 6, 3, 1, 0] rfl)
    · skip
      refine lv_istore (lv' := [(5, .int (-1000000001 : Int32)), (4, .int (nI (cnt (sdb (wn.2 7) (wn.2 8) ((wn.2 4) a1)) nl))), (0, .ref (h 0)), (1, .int (nI a1)), (2, .int s1), (3, .int i1)]) hx hb dX4_film_43 hl (by decide) rfl (fun ls hl => ?_)
      refine lv_iload hx hb dX4_film_45 (lv_at hl 0 rfl) ?_
      refine lv_if_eq (tgt := 53) hx hb dX4_film_47 (by decide) (fun c9 => absurd c9 (by decide)) (fun _ => ?_)
      refine lv_iload hx hb dX4_film_50 (lv_at hl 0 rfl) ?_
      exact W.iret (v := (-1000000001 : Int32)) hx hb hr (fun t ht hW => ⟨⟨(-1000000001 : Int32), (x, wn, wa, w0, w1, rd, wr, z, jj, lt), rfl, ⟨_, _, _, _, _, _, _, _, _, _, rfl, ⟨nv, nl, hnv, by omega, hnl, by omega⟩, ⟨nva, nla, hnva, by omega, hnla, by omega⟩, ⟨nv0, nl0, hnv0, by omega, hnl0, by omega⟩, ⟨nv1, nl1, hnv1, by omega, hnl1, by omega⟩, rfl, rfl, rfl, rfl⟩, show PP G (xw G h x wn wa w0 w1 rd wr z jj lt) t.heap by rw [ht]; exact hP⟩, hS.F ht⟩) hS.2.2 dX4_film_52
    · skip
      refine lv_istore (lv' := [(5, .int (-1000000011 : Int32)), (4, .int (nI (cnt (sdb (wn.2 7) (wn.2 8) ((wn.2 4) a1)) nl))), (0, .ref (h 0)), (1, .int (nI a1)), (2, .int s1), (3, .int i1)]) hx hb dX4_film_43 hl (by decide) rfl (fun ls hl => ?_)
      refine lv_iload hx hb dX4_film_45 (lv_at hl 0 rfl) ?_
      refine lv_if_eq (tgt := 53) hx hb dX4_film_47 (by decide) (fun c9 => absurd c9 (by decide)) (fun _ => ?_)
      refine lv_iload hx hb dX4_film_50 (lv_at hl 0 rfl) ?_
      exact W.iret (v := (-1000000011 : Int32)) hx hb hr (fun t ht hW => ⟨⟨(-1000000011 : Int32), (x, wn, wa, w0, w1, rd, wr, z, jj, lt), rfl, ⟨_, _, _, _, _, _, _, _, _, _, rfl, ⟨nv, nl, hnv, by omega, hnl, by omega⟩, ⟨nva, nla, hnva, by omega, hnla, by omega⟩, ⟨nv0, nl0, hnv0, by omega, hnl0, by omega⟩, ⟨nv1, nl1, hnv1, by omega, hnl1, by omega⟩, rfl, rfl, rfl, rfl⟩, show PP G (xw G h x wn wa w0 w1 rd wr z jj lt) t.heap by rw [ht]; exact hP⟩, hS.F ht⟩) hS.2.2 dX4_film_52
    · skip
      refine lv_istore (lv' := [(5, .int (-1000000012 : Int32)), (4, .int (nI (cnt (sdb (wn.2 7) (wn.2 8) ((wn.2 4) a1)) nl))), (0, .ref (h 0)), (1, .int (nI a1)), (2, .int s1), (3, .int i1)]) hx hb dX4_film_43 hl (by decide) rfl (fun ls hl => ?_)
      refine lv_iload hx hb dX4_film_45 (lv_at hl 0 rfl) ?_
      refine lv_if_eq (tgt := 53) hx hb dX4_film_47 (by decide) (fun c9 => absurd c9 (by decide)) (fun _ => ?_)
      refine lv_iload hx hb dX4_film_50 (lv_at hl 0 rfl) ?_
      exact W.iret (v := (-1000000012 : Int32)) hx hb hr (fun t ht hW => ⟨⟨(-1000000012 : Int32), (x, wn, wa, w0, w1, rd, wr, z, jj, lt), rfl, ⟨_, _, _, _, _, _, _, _, _, _, rfl, ⟨nv, nl, hnv, by omega, hnl, by omega⟩, ⟨nva, nla, hnva, by omega, hnla, by omega⟩, ⟨nv0, nl0, hnv0, by omega, hnl0, by omega⟩, ⟨nv1, nl1, hnv1, by omega, hnl1, by omega⟩, rfl, rfl, rfl, rfl⟩, show PP G (xw G h x wn wa w0 w1 rd wr z jj lt) t.heap by rw [ht]; exact hP⟩, hS.F ht⟩) hS.2.2 dX4_film_52
  · skip
    refine lv_if_ne (tgt := 14) hx hb dX4_film_8 (by decide) (fun c9 => absurd (by decide) c9) (fun _ => ?_)
    refine lv_ldc (v := (-1000000001 : Int32)) hx hb hown (hts (.constant RX4 110 (-1000000001)) (List.mem_of_getElem? (i := 2) rfl)) dX4_film_11 ?_
    exact W.iret (v := (-1000000001 : Int32)) hx hb hr (fun t ht hW => ⟨⟨(-1000000001 : Int32), (x, wn, wa, w0, w1, rd, wr, z, jj, lt), rfl, ⟨_, _, _, _, _, _, _, _, _, _, rfl, ⟨nv, nl, hnv, by omega, hnl, by omega⟩, ⟨nva, nla, hnva, by omega, hnla, by omega⟩, ⟨nv0, nl0, hnv0, by omega, hnl0, by omega⟩, ⟨nv1, nl1, hnv1, by omega, hnl1, by omega⟩, rfl, rfl, rfl, rfl⟩, show PP G (xw G h x wn wa w0 w1 rd wr z jj lt) t.heap by rw [ht]; exact hP⟩, hS.F ht⟩) hS.2.2 dX4_film_13
set_option maxHeartbeats 1000000 in
set_option maxRecDepth 100000 in
theorem mt_X4_keep (l : Launch) (G : gG) (h : Nat → Nat) (sz : Nat) (x : oS) (wn : oS) (wa : oS) (w0 : oS) (w1 : oS) (rd : oS) (wr : oS) (z : oS) (jj : Nat → Nat → Int64) (lt : Int64) (nv : Nat) (nl : Nat) (nva : Nat) (nla : Nat) (nv0 : Nat) (nl0 : Nat) (nv1 : Nat) (nl1 : Nat) (len : Nat) (i : Int32) (hnv : wn.1 0 = nI nv) (hnl : wn.1 5 = nI nl) (hnva : wa.1 0 = nI nva) (hnla : wa.1 5 = nI nla) (hnv0 : w0.1 0 = nI nv0) (hnl0 : w0.1 5 = nI nl0) (hnv1 : w1.1 0 = nI nv1) (hnl1 : w1.1 5 = nI nl1) (hlen : rd.1 1 = nI len) (hnv24 : nv ≤ 24) (hnl120 : nl ≤ 120) (hva24 : nva ≤ 24) (hla120 : nla ≤ 120) (hv024 : nv0 ≤ 24) (hl0120 : nl0 ≤ 120) (hv124 : nv1 ≤ 24) (hl1120 : nl1 ≤ 120) (hl240 : len ≤ 240) (hsz : ∀ j, j < 4 → z.2 1 j = -1 ∨ ∃ q, q ≤ 40 ∧ z.2 1 j = nI q) : Met l yX4_keep wsX4_keep ({ frames := 2, cells := 0, slots := 0, locals := 47 }) (preW G (xw G h x wn wa w0 w1 rd wr z jj lt) sz [.ref (h 0), .int i]) (va_Qi (fun (r : Int32) (v : oS × oS × oS × oS × oS × oS × oS × oS × (Nat → Nat → Int64) × Int64) => XQ x rd z v) (fun v t => PP G (xw G h v.1 v.2.1 v.2.2.1 v.2.2.2.1 v.2.2.2.2.1 v.2.2.2.2.2.1 v.2.2.2.2.2.2.1 v.2.2.2.2.2.2.2.1 v.2.2.2.2.2.2.2.2.1 v.2.2.2.2.2.2.2.2.2) t.heap) (va_A (xw G h x wn wa w0 w1 rd wr z jj lt) sz)) 0 0 (va_A (xw G h x wn wa w0 w1 rd wr z jj lt) sz) := by
  refine Met.ofW (cc := cX4_keep) (maxL := 2) (ret := (some .int)) (by decide) rfl ?_
  intro p e s m args below meth c s₁ B hml hv
  obtain ⟨ha, hsz, hP, hK, hN, hD0⟩ := hv
  subst ha
  have hx := B.exec
  have hb := B.bytes
  have hr := B.returns
  have hts := atoms_spec (ws := wsX4_keep) B.pre
  have hown : s.vm.findClass RX4 = some m.cls := findClass_of_methodNamed B.named
  have hlocks := B.notSynchronized
  subst hsz
  have hD := hD0.self (sz := s.heap.size)
  generalize hAe : va_A (xw G h x wn wa w0 w1 rd wr z jj lt) s.heap.size = A at hD ⊢
  have hA : ∀ q : Nat, s.heap.size ≤ q → A q := fun q h => by rw [← hAe]; exact Or.inr h
  clear hAe hD0
  have hS : va_S A s.heap s.heap [] := va_S.rf
  have hiX4 : ∀ w ∈ wsX40, w ∈ wsX4_keep := by decide +kernel
  have k48 := hts (.fieldLink RX4 48 "WovenHistory" "opened" "Z") (List.mem_of_getElem? (i := 2) rfl)
  have k19 := hts (.fieldLink RX4 19 "WovenHistory" "images" "[LWovenHistory$Weave;") (List.mem_of_getElem? (i := 4) rfl)
  have k10 := hts (.fieldLink RX4 10 "WovenHistory" "now" "LWovenHistory$Weave;") (List.mem_of_getElem? (i := 5) rfl)
  have k23 := hts (.fieldLink RX4 23 "WovenHistory" "kept" "[Z") (List.mem_of_getElem? (i := 6) rfl)
  have hiX3 : ∀ w ∈ wsX30, w ∈ wsX4_keep := by decide +kernel
  have k82 : (Cond.fieldLinkNest "WovenHistory" 82 "WovenHistory$Weave" "versions" "I" "WovenHistory").before _ s = true := va_Nw.use (A := ([.ref (h 0), .int i] : List Value).toArray) rfl (hN.1 ("WovenHistory", 82, "WovenHistory$Weave", "versions", "I") (List.mem_of_getElem? (i := 12) rfl))
  have hl := lv_entry ([.ref (h 0), .int i]) (n := 2) (Nat.le_of_ble_eq_true rfl)
  rw [lg_entry_eq]
  generalize (lg_sl ([.ref (h 0), .int i]) ++ List.replicate (2 - (lg_sl ([.ref (h 0), .int i])).length) Slot.unset).toArray = ls at hl ⊢
  have hl : lv_has ls 2 [(0, .ref (h 0)), (1, .int i)] := hl
  refine lv_iload_n hx hb dX4_keep_0 rfl (lv_at hl 1 rfl) ?_
  refine lv_if_lt (tgt := 9) hx hb dX4_keep_1 (by decide) (fun c1 => ?_) (fun c1 => ?_)
  · skip
    refine lv_ldc (v := (-1000000001 : Int32)) hx hb hown (hts (.constant RX4 110 (-1000000001)) (List.mem_of_getElem? (i := 1) rfl)) dX4_keep_9 ?_
    exact W.iret (v := (-1000000001 : Int32)) hx hb hr (fun t ht hW => ⟨⟨(-1000000001 : Int32), (x, wn, wa, w0, w1, rd, wr, z, jj, lt), rfl, ⟨_, _, _, _, _, _, _, _, _, _, rfl, ⟨nv, nl, hnv, by omega, hnl, by omega⟩, ⟨nva, nla, hnva, by omega, hnla, by omega⟩, ⟨nv0, nl0, hnv0, by omega, hnl0, by omega⟩, ⟨nv1, nl1, hnv1, by omega, hnl1, by omega⟩, rfl, rfl, rfl, rfl⟩, show PP G (xw G h x wn wa w0 w1 rd wr z jj lt) t.heap by rw [ht]; exact hP⟩, hS.F ht⟩) hS.2.2 dX4_keep_11
  · skip
    refine lv_iload_n hx hb dX4_keep_4 rfl (lv_at hl 1 rfl) ?_
    refine lv_iconst (v := nI 2) hx hb dX4_keep_5 (by decide) ?_
    refine lv_icmp_lt (tgt := 12) hx hb dX4_keep_6 (by decide) (fun c6 => ?_) (fun c6 => ?_)
    · skip
      obtain ⟨i2, hi2, rfl⟩ := lt_y (n := 2) (by omega) c1 c6
      refine lv_aload_n hx hb dX4_keep_12 rfl (lv_at hl 0 rfl) ?_
      refine va_get (D := gD G) (ci := 4) (v := .int (x.1 7)) (C := RX4) (T := TX4) (N := 9) hx hb hts hiX4 hown hK hP 0 (xp_0 _ _ _ _ _ _ _ _ _ _ _ _) rfl 7 (by decide) k48 (fun _ h9 => h9) rfl dX4_keep_13 ?_
      refine lv_if_eq (tgt := 22) hx hb dX4_keep_16 (by decide) (fun c16 => ?_) (fun c16 => ?_)
      · skip
        rcases (show i2 = 0 ∨ i2 = 1 by omega) with rfl | rfl
        · skip
          refine lv_aload_n hx hb dX4_keep_22 rfl (lv_at hl 0 rfl) ?_
          refine va_get (D := gD G) (ci := 4) (v := .ref (h 2)) (C := RX4) (T := TX4) (N := 9) hx hb hts hiX4 hown hK hP 0 (xp_0 _ _ _ _ _ _ _ _ _ _ _ _) rfl 2 (by decide) k19 (fun _ h9 => h9) rfl dX4_keep_23 ?_
          refine lv_iload_n hx hb dX4_keep_26 rfl (lv_at hl 1 rfl) ?_
          refine aaldW (f := fun i => some (h (30 + 10 * i))) (n := 2) (k := 0) (b := h 30) hx hb hK hP 1 (xp_1 _ _ _ _ _ _ _ _ _ _ _ _) rfl (by decide) rfl dX4_keep_27 ?_
          refine lv_aload_n hx hb dX4_keep_28 rfl (lv_at hl 0 rfl) ?_
          refine va_get (D := gD G) (ci := 4) (v := .ref (h 10)) (C := RX4) (T := TX4) (N := 9) hx hb hts hiX4 hown hK hP 0 (xp_0 _ _ _ _ _ _ _ _ _ _ _ _) rfl 0 (by decide) k10 (fun _ h9 => h9) rfl dX4_keep_29 ?_
          refine cWv (As := [.ref (h 10)]) (rest := []) (S := oS × oS) (wa := xw G h x wn wa w0 w1 rd wr z jj lt) (wc := wb G (fun k => h (30 + k)) (fun k => h (10 + k)) w0 wn) (w1 := fun v => wb G (fun k => h (30 + k)) (fun k => h (10 + k)) v.1 v.2) (wa' := fun v => xw G h x v.2 wa v.1 w1 rd wr z jj lt) ⟨hx, hb, hml, hown, hts⟩ (mt_X3_become l G (fun k => h (30 + k)) _ w0 wn (fun k => h (10 + k))) (cwV 1 hts gX4_keep_X3_become rfl rfl rfl (by decide +kernel) ⟨Nat.le_of_ble_eq_true rfl, Nat.le_of_ble_eq_true rfl⟩) hK hN hP hD hS hA [19, 20, 21, 22, 23, 24, 25, 26, 3, 4, 5, 6, 7, 8, 9, 10] (yc_im0_now _ _ _ _ _ _ _ _ _ _ _ _) (by decide) (yf_im0_now _ _ _ _ _ _ _ _ _ _ _ _) (fun _ => rfl) (fun v => yo_im0_now _ _ _ _ _ _ _ _ _ _ _ _ v) (fun v => ym_im0_now _ _ _ _ _ _ _ _ _ _ _ _ v) 0 3 rfl rfl rfl hl.1 rfl (Nat.le_of_ble_eq_true rfl) ⟨Nat.zero_le _, Nat.zero_le _⟩ dX4_keep_32 (fun u32 H locs hw32 hP hD hS => ?_)
          obtain ⟨w32, rfl, e32a, e32b⟩ := hw32
          have hP : PP G (xw G h x wn wa w32 w1 rd wr z jj lt) H := hP
          have hD : va_D A (xw G h x wn wa w32 w1 rd wr z jj lt) := hD
          refine lv_aload_n hx hb dX4_keep_35 rfl (lv_at hl 0 rfl) ?_
          refine va_get (D := gD G) (ci := 4) (v := .ref (h 3)) (C := RX4) (T := TX4) (N := 9) hx hb hts hiX4 hown hK hP 0 (xp_0 _ _ _ _ _ _ _ _ _ _ _ _) rfl 3 (by decide) k23 (fun _ h9 => h9) rfl dX4_keep_36 ?_
          refine lv_iload_n hx hb dX4_keep_39 rfl (lv_at hl 1 rfl) ?_
          refine lv_iconst (v := nI 1) hx hb dX4_keep_40 (by decide) ?_
          refine zastN (f := x.2 3) (n := 2) (k := 0) hx hb hK hP hD hS 2 (xp_2 _ _ _ _ _ _ _ _ _ _ _ _) rfl (by omega) (Or.inr rfl) dX4_keep_41 (fun H locs hP hD hS => ?_)
          rw [xs_2] at hP hD
          have hP : PP G (xw G h (oA x 3 (upd (x.2 3) 0 (nI 1))) wn wa w32 w1 rd wr z jj lt) H := hP
          have hD : va_D A (xw G h (oA x 3 (upd (x.2 3) 0 (nI 1))) wn wa w32 w1 rd wr z jj lt) := hD
          refine lv_aload_n hx hb dX4_keep_42 rfl (lv_at hl 0 rfl) ?_
          refine va_get (D := gD G) (ci := 4) (v := .ref (h 10)) (C := RX4) (T := TX4) (N := 9) hx hb hts hiX4 hown hK hP 0 (xp_0 _ _ _ _ _ _ _ _ _ _ _ _) rfl 0 (by decide) k10 (fun _ h9 => h9) rfl dX4_keep_43 ?_
          refine va_getN (D := gD G) (ci := 3) (v := .int (wn.1 0)) (C := RX3) (T := TX3) (N := 9) hx hb hts hiX3 hown hK hP 3 (xp_3 _ _ _ _ _ _ _ _ _ _ _ _) rfl 0 (by decide) k82 (fun _ h9 => h9) rfl dX4_keep_46 ?_
          refine topE hnv ?_
          exact W.iret (v := nI nv) hx hb hr (fun t ht hW => ⟨⟨nI nv, (oA x 3 (upd (x.2 3) 0 (nI 1)), wn, wa, w32, w1, rd, wr, z, jj, lt), rfl, ⟨_, _, _, _, _, _, _, _, _, _, rfl, ⟨nv, nl, hnv, by omega, hnl, by omega⟩, ⟨nva, nla, hnva, by omega, hnla, by omega⟩, ⟨nv, nl, e32a.trans (hnv), by omega, e32b.trans (hnl), by omega⟩, ⟨nv1, nl1, hnv1, by omega, hnl1, by omega⟩, rfl, rfl, rfl, rfl⟩, show PP G (xw G h (oA x 3 (upd (x.2 3) 0 (nI 1))) wn wa w32 w1 rd wr z jj lt) t.heap by rw [ht]; exact hP⟩, hS.F ht⟩) hS.2.2 dX4_keep_49
        · skip
          refine lv_aload_n hx hb dX4_keep_22 rfl (lv_at hl 0 rfl) ?_
          refine va_get (D := gD G) (ci := 4) (v := .ref (h 2)) (C := RX4) (T := TX4) (N := 9) hx hb hts hiX4 hown hK hP 0 (xp_0 _ _ _ _ _ _ _ _ _ _ _ _) rfl 2 (by decide) k19 (fun _ h9 => h9) rfl dX4_keep_23 ?_
          refine lv_iload_n hx hb dX4_keep_26 rfl (lv_at hl 1 rfl) ?_
          refine aaldW (f := fun i => some (h (30 + 10 * i))) (n := 2) (k := 1) (b := h 40) hx hb hK hP 1 (xp_1 _ _ _ _ _ _ _ _ _ _ _ _) rfl (by decide) rfl dX4_keep_27 ?_
          refine lv_aload_n hx hb dX4_keep_28 rfl (lv_at hl 0 rfl) ?_
          refine va_get (D := gD G) (ci := 4) (v := .ref (h 10)) (C := RX4) (T := TX4) (N := 9) hx hb hts hiX4 hown hK hP 0 (xp_0 _ _ _ _ _ _ _ _ _ _ _ _) rfl 0 (by decide) k10 (fun _ h9 => h9) rfl dX4_keep_29 ?_
          refine cWv (As := [.ref (h 10)]) (rest := []) (S := oS × oS) (wa := xw G h x wn wa w0 w1 rd wr z jj lt) (wc := wb G (fun k => h (40 + k)) (fun k => h (10 + k)) w1 wn) (w1 := fun v => wb G (fun k => h (40 + k)) (fun k => h (10 + k)) v.1 v.2) (wa' := fun v => xw G h x v.2 wa w0 v.1 rd wr z jj lt) ⟨hx, hb, hml, hown, hts⟩ (mt_X3_become l G (fun k => h (40 + k)) _ w1 wn (fun k => h (10 + k))) (cwV 1 hts gX4_keep_X3_become rfl rfl rfl (by decide +kernel) ⟨Nat.le_of_ble_eq_true rfl, Nat.le_of_ble_eq_true rfl⟩) hK hN hP hD hS hA [27, 28, 29, 30, 31, 32, 33, 34, 3, 4, 5, 6, 7, 8, 9, 10] (yc_im1_now _ _ _ _ _ _ _ _ _ _ _ _) (by decide) (yf_im1_now _ _ _ _ _ _ _ _ _ _ _ _) (fun _ => rfl) (fun v => yo_im1_now _ _ _ _ _ _ _ _ _ _ _ _ v) (fun v => ym_im1_now _ _ _ _ _ _ _ _ _ _ _ _ v) 0 3 rfl rfl rfl hl.1 rfl (Nat.le_of_ble_eq_true rfl) ⟨Nat.zero_le _, Nat.zero_le _⟩ dX4_keep_32 (fun u32 H locs hw32 hP hD hS => ?_)
          obtain ⟨w32, rfl, e32a, e32b⟩ := hw32
          have hP : PP G (xw G h x wn wa w0 w32 rd wr z jj lt) H := hP
          have hD : va_D A (xw G h x wn wa w0 w32 rd wr z jj lt) := hD
          refine lv_aload_n hx hb dX4_keep_35 rfl (lv_at hl 0 rfl) ?_
          refine va_get (D := gD G) (ci := 4) (v := .ref (h 3)) (C := RX4) (T := TX4) (N := 9) hx hb hts hiX4 hown hK hP 0 (xp_0 _ _ _ _ _ _ _ _ _ _ _ _) rfl 3 (by decide) k23 (fun _ h9 => h9) rfl dX4_keep_36 ?_
          refine lv_iload_n hx hb dX4_keep_39 rfl (lv_at hl 1 rfl) ?_
          refine lv_iconst (v := nI 1) hx hb dX4_keep_40 (by decide) ?_
          refine zastN (f := x.2 3) (n := 2) (k := 1) hx hb hK hP hD hS 2 (xp_2 _ _ _ _ _ _ _ _ _ _ _ _) rfl (by omega) (Or.inr rfl) dX4_keep_41 (fun H locs hP hD hS => ?_)
          rw [xs_2] at hP hD
          have hP : PP G (xw G h (oA x 3 (upd (x.2 3) 1 (nI 1))) wn wa w0 w32 rd wr z jj lt) H := hP
          have hD : va_D A (xw G h (oA x 3 (upd (x.2 3) 1 (nI 1))) wn wa w0 w32 rd wr z jj lt) := hD
          refine lv_aload_n hx hb dX4_keep_42 rfl (lv_at hl 0 rfl) ?_
          refine va_get (D := gD G) (ci := 4) (v := .ref (h 10)) (C := RX4) (T := TX4) (N := 9) hx hb hts hiX4 hown hK hP 0 (xp_0 _ _ _ _ _ _ _ _ _ _ _ _) rfl 0 (by decide) k10 (fun _ h9 => h9) rfl dX4_keep_43 ?_
          refine va_getN (D := gD G) (ci := 3) (v := .int (wn.1 0)) (C := RX3) (T := TX3) (N := 9) hx hb hts hiX3 hown hK hP 3 (xp_3 _ _ _ _ _ _ _ _ _ _ _ _) rfl 0 (by decide) k82 (fun _ h9 => h9) rfl dX4_keep_46 ?_
          refine topE hnv ?_
          exact W.iret (v := nI nv) hx hb hr (fun t ht hW => ⟨⟨nI nv, (oA x 3 (upd (x.2 3) 1 (nI 1)), wn, wa, w0, w32, rd, wr, z, jj, lt), rfl, ⟨_, _, _, _, _, _, _, _, _, _, rfl, ⟨nv, nl, hnv, by omega, hnl, by omega⟩, ⟨nva, nla, hnva, by omega, hnla, by omega⟩, ⟨nv0, nl0, hnv0, by omega, hnl0, by omega⟩, ⟨nv, nl, e32a.trans (hnv), by omega, e32b.trans (hnl), by omega⟩, rfl, rfl, rfl, rfl⟩, show PP G (xw G h (oA x 3 (upd (x.2 3) 1 (nI 1))) wn wa w0 w32 rd wr z jj lt) t.heap by rw [ht]; exact hP⟩, hS.F ht⟩) hS.2.2 dX4_keep_49
      · skip
        refine lv_ldc (v := (-1000000003 : Int32)) hx hb hown (hts (.constant RX4 148 (-1000000003)) (List.mem_of_getElem? (i := 3) rfl)) dX4_keep_19 ?_
        exact W.iret (v := (-1000000003 : Int32)) hx hb hr (fun t ht hW => ⟨⟨(-1000000003 : Int32), (x, wn, wa, w0, w1, rd, wr, z, jj, lt), rfl, ⟨_, _, _, _, _, _, _, _, _, _, rfl, ⟨nv, nl, hnv, by omega, hnl, by omega⟩, ⟨nva, nla, hnva, by omega, hnla, by omega⟩, ⟨nv0, nl0, hnv0, by omega, hnl0, by omega⟩, ⟨nv1, nl1, hnv1, by omega, hnl1, by omega⟩, rfl, rfl, rfl, rfl⟩, show PP G (xw G h x wn wa w0 w1 rd wr z jj lt) t.heap by rw [ht]; exact hP⟩, hS.F ht⟩) hS.2.2 dX4_keep_21
    · skip
      refine lv_ldc (v := (-1000000001 : Int32)) hx hb hown (hts (.constant RX4 110 (-1000000001)) (List.mem_of_getElem? (i := 1) rfl)) dX4_keep_9 ?_
      exact W.iret (v := (-1000000001 : Int32)) hx hb hr (fun t ht hW => ⟨⟨(-1000000001 : Int32), (x, wn, wa, w0, w1, rd, wr, z, jj, lt), rfl, ⟨_, _, _, _, _, _, _, _, _, _, rfl, ⟨nv, nl, hnv, by omega, hnl, by omega⟩, ⟨nva, nla, hnva, by omega, hnla, by omega⟩, ⟨nv0, nl0, hnv0, by omega, hnl0, by omega⟩, ⟨nv1, nl1, hnv1, by omega, hnl1, by omega⟩, rfl, rfl, rfl, rfl⟩, show PP G (xw G h x wn wa w0 w1 rd wr z jj lt) t.heap by rw [ht]; exact hP⟩, hS.F ht⟩) hS.2.2 dX4_keep_11
set_option maxHeartbeats 1000000 in
set_option maxRecDepth 100000 in
theorem mt_X4_goBack (l : Launch) (G : gG) (h : Nat → Nat) (sz : Nat) (x : oS) (wn : oS) (wa : oS) (w0 : oS) (w1 : oS) (rd : oS) (wr : oS) (z : oS) (jj : Nat → Nat → Int64) (lt : Int64) (nv : Nat) (nl : Nat) (nva : Nat) (nla : Nat) (nv0 : Nat) (nl0 : Nat) (nv1 : Nat) (nl1 : Nat) (len : Nat) (i : Int32) (hnv : wn.1 0 = nI nv) (hnl : wn.1 5 = nI nl) (hnva : wa.1 0 = nI nva) (hnla : wa.1 5 = nI nla) (hnv0 : w0.1 0 = nI nv0) (hnl0 : w0.1 5 = nI nl0) (hnv1 : w1.1 0 = nI nv1) (hnl1 : w1.1 5 = nI nl1) (hlen : rd.1 1 = nI len) (hnv24 : nv ≤ 24) (hnl120 : nl ≤ 120) (hva24 : nva ≤ 24) (hla120 : nla ≤ 120) (hv024 : nv0 ≤ 24) (hl0120 : nl0 ≤ 120) (hv124 : nv1 ≤ 24) (hl1120 : nl1 ≤ 120) (hl240 : len ≤ 240) (hsz : ∀ j, j < 4 → z.2 1 j = -1 ∨ ∃ q, q ≤ 40 ∧ z.2 1 j = nI q) : Met l yX4_goBack wsX4_goBack ({ frames := 2, cells := 0, slots := 0, locals := 47 }) (preW G (xw G h x wn wa w0 w1 rd wr z jj lt) sz [.ref (h 0), .int i]) (va_Qi (fun (r : Int32) (v : oS × oS × oS × oS × oS × oS × oS × oS × (Nat → Nat → Int64) × Int64) => XQ x rd z v) (fun v t => PP G (xw G h v.1 v.2.1 v.2.2.1 v.2.2.2.1 v.2.2.2.2.1 v.2.2.2.2.2.1 v.2.2.2.2.2.2.1 v.2.2.2.2.2.2.2.1 v.2.2.2.2.2.2.2.2.1 v.2.2.2.2.2.2.2.2.2) t.heap) (va_A (xw G h x wn wa w0 w1 rd wr z jj lt) sz)) 0 0 (va_A (xw G h x wn wa w0 w1 rd wr z jj lt) sz) := by
  refine Met.ofW (cc := cX4_goBack) (maxL := 2) (ret := (some .int)) (by decide) rfl ?_
  intro p e s m args below meth c s₁ B hml hv
  obtain ⟨ha, hsz, hP, hK, hN, hD0⟩ := hv
  subst ha
  have hx := B.exec
  have hb := B.bytes
  have hr := B.returns
  have hts := atoms_spec (ws := wsX4_goBack) B.pre
  have hown : s.vm.findClass RX4 = some m.cls := findClass_of_methodNamed B.named
  have hlocks := B.notSynchronized
  subst hsz
  have hD := hD0.self (sz := s.heap.size)
  generalize hAe : va_A (xw G h x wn wa w0 w1 rd wr z jj lt) s.heap.size = A at hD ⊢
  have hA : ∀ q : Nat, s.heap.size ≤ q → A q := fun q h => by rw [← hAe]; exact Or.inr h
  clear hAe hD0
  have hS : va_S A s.heap s.heap [] := va_S.rf
  have hiX4 : ∀ w ∈ wsX40, w ∈ wsX4_goBack := by decide +kernel
  have k23 := hts (.fieldLink RX4 23 "WovenHistory" "kept" "[Z") (List.mem_of_getElem? (i := 2) rfl)
  have k10 := hts (.fieldLink RX4 10 "WovenHistory" "now" "LWovenHistory$Weave;") (List.mem_of_getElem? (i := 4) rfl)
  have k19 := hts (.fieldLink RX4 19 "WovenHistory" "images" "[LWovenHistory$Weave;") (List.mem_of_getElem? (i := 5) rfl)
  have k48 := hts (.fieldLink RX4 48 "WovenHistory" "opened" "Z") (List.mem_of_getElem? (i := 6) rfl)
  have hiX3 : ∀ w ∈ wsX30, w ∈ wsX4_goBack := by decide +kernel
  have k82 : (Cond.fieldLinkNest "WovenHistory" 82 "WovenHistory$Weave" "versions" "I" "WovenHistory").before _ s = true := va_Nw.use (A := ([.ref (h 0), .int i] : List Value).toArray) rfl (hN.1 ("WovenHistory", 82, "WovenHistory$Weave", "versions", "I") (List.mem_of_getElem? (i := 12) rfl))
  have hl := lv_entry ([.ref (h 0), .int i]) (n := 2) (Nat.le_of_ble_eq_true rfl)
  rw [lg_entry_eq]
  generalize (lg_sl ([.ref (h 0), .int i]) ++ List.replicate (2 - (lg_sl ([.ref (h 0), .int i])).length) Slot.unset).toArray = ls at hl ⊢
  have hl : lv_has ls 2 [(0, .ref (h 0)), (1, .int i)] := hl
  refine lv_iload_n hx hb dX4_goBack_0 rfl (lv_at hl 1 rfl) ?_
  refine lv_if_lt (tgt := 9) hx hb dX4_goBack_1 (by decide) (fun c1 => ?_) (fun c1 => ?_)
  · skip
    refine lv_ldc (v := (-1000000001 : Int32)) hx hb hown (hts (.constant RX4 110 (-1000000001)) (List.mem_of_getElem? (i := 1) rfl)) dX4_goBack_9 ?_
    exact W.iret (v := (-1000000001 : Int32)) hx hb hr (fun t ht hW => ⟨⟨(-1000000001 : Int32), (x, wn, wa, w0, w1, rd, wr, z, jj, lt), rfl, ⟨_, _, _, _, _, _, _, _, _, _, rfl, ⟨nv, nl, hnv, by omega, hnl, by omega⟩, ⟨nva, nla, hnva, by omega, hnla, by omega⟩, ⟨nv0, nl0, hnv0, by omega, hnl0, by omega⟩, ⟨nv1, nl1, hnv1, by omega, hnl1, by omega⟩, rfl, rfl, rfl, rfl⟩, show PP G (xw G h x wn wa w0 w1 rd wr z jj lt) t.heap by rw [ht]; exact hP⟩, hS.F ht⟩) hS.2.2 dX4_goBack_11
  · skip
    refine lv_iload_n hx hb dX4_goBack_4 rfl (lv_at hl 1 rfl) ?_
    refine lv_iconst (v := nI 2) hx hb dX4_goBack_5 (by decide) ?_
    refine lv_icmp_lt (tgt := 12) hx hb dX4_goBack_6 (by decide) (fun c6 => ?_) (fun c6 => ?_)
    · skip
      obtain ⟨i2, hi2, rfl⟩ := lt_y (n := 2) (by omega) c1 c6
      refine lv_aload_n hx hb dX4_goBack_12 rfl (lv_at hl 0 rfl) ?_
      refine va_get (D := gD G) (ci := 4) (v := .ref (h 3)) (C := RX4) (T := TX4) (N := 9) hx hb hts hiX4 hown hK hP 0 (xp_0 _ _ _ _ _ _ _ _ _ _ _ _) rfl 3 (by decide) k23 (fun _ h9 => h9) rfl dX4_goBack_13 ?_
      refine lv_iload_n hx hb dX4_goBack_16 rfl (lv_at hl 1 rfl) ?_
      refine zaldN (f := x.2 3) (n := 2) (k := i2) hx hb hK hP 2 (xp_2 _ _ _ _ _ _ _ _ _ _ _ _) rfl (by omega) dX4_goBack_17 ?_
      refine lv_if_ne (tgt := 24) hx hb dX4_goBack_18 (by decide) (fun c18 => ?_) (fun c18 => ?_)
      · skip
        rcases (show i2 = 0 ∨ i2 = 1 by omega) with rfl | rfl
        · skip
          refine lv_aload_n hx hb dX4_goBack_24 rfl (lv_at hl 0 rfl) ?_
          refine va_get (D := gD G) (ci := 4) (v := .ref (h 10)) (C := RX4) (T := TX4) (N := 9) hx hb hts hiX4 hown hK hP 0 (xp_0 _ _ _ _ _ _ _ _ _ _ _ _) rfl 0 (by decide) k10 (fun _ h9 => h9) rfl dX4_goBack_25 ?_
          refine lv_aload_n hx hb dX4_goBack_28 rfl (lv_at hl 0 rfl) ?_
          refine va_get (D := gD G) (ci := 4) (v := .ref (h 2)) (C := RX4) (T := TX4) (N := 9) hx hb hts hiX4 hown hK hP 0 (xp_0 _ _ _ _ _ _ _ _ _ _ _ _) rfl 2 (by decide) k19 (fun _ h9 => h9) rfl dX4_goBack_29 ?_
          refine lv_iload_n hx hb dX4_goBack_32 rfl (lv_at hl 1 rfl) ?_
          refine aaldW (f := fun i => some (h (30 + 10 * i))) (n := 2) (k := 0) (b := h 30) hx hb hK hP 1 (xp_1 _ _ _ _ _ _ _ _ _ _ _ _) rfl (by decide) rfl dX4_goBack_33 ?_
          refine cWv (As := [.ref (h 30)]) (rest := []) (S := oS × oS) (wa := xw G h x wn wa w0 w1 rd wr z jj lt) (wc := wb G (fun k => h (10 + k)) (fun k => h (30 + k)) wn w0) (w1 := fun v => wb G (fun k => h (10 + k)) (fun k => h (30 + k)) v.1 v.2) (wa' := fun v => xw G h x v.1 wa v.2 w1 rd wr z jj lt) ⟨hx, hb, hml, hown, hts⟩ (mt_X3_become l G (fun k => h (10 + k)) _ wn w0 (fun k => h (30 + k))) (cwV 1 hts gX4_goBack_X3_become rfl rfl rfl (by decide +kernel) ⟨Nat.le_of_ble_eq_true rfl, Nat.le_of_ble_eq_true rfl⟩) hK hN hP hD hS hA [3, 4, 5, 6, 7, 8, 9, 10, 19, 20, 21, 22, 23, 24, 25, 26] (yc_now_im0 _ _ _ _ _ _ _ _ _ _ _ _) (by decide) (yf_now_im0 _ _ _ _ _ _ _ _ _ _ _ _) (fun _ => rfl) (fun v => yo_now_im0 _ _ _ _ _ _ _ _ _ _ _ _ v) (fun v => ym_now_im0 _ _ _ _ _ _ _ _ _ _ _ _ v) 0 3 rfl rfl rfl hl.1 rfl (Nat.le_of_ble_eq_true rfl) ⟨Nat.zero_le _, Nat.zero_le _⟩ dX4_goBack_34 (fun u34 H locs hw34 hP hD hS => ?_)
          obtain ⟨w34, rfl, e34a, e34b⟩ := hw34
          have hP : PP G (xw G h x w34 wa w0 w1 rd wr z jj lt) H := hP
          have hD : va_D A (xw G h x w34 wa w0 w1 rd wr z jj lt) := hD
          refine lv_aload_n hx hb dX4_goBack_37 rfl (lv_at hl 0 rfl) ?_
          refine lv_iconst (v := nI 0) hx hb dX4_goBack_38 (by decide) ?_
          refine va_put (D := gD G) (ci := 4) (v := .int (nI 0)) (ty := .boolean) (C := RX4) (T := TX4) (N := 9) hx hb hts hiX4 tyX4 tyX4_ok nmX4 hown hK hP hD hS 0 (xp_0 _ _ _ _ _ _ _ _ _ _ _ _) rfl 7 (by decide) k48 (fun _ h9 => h9) rfl (by decide +kernel) (rfl) (rfl) (Nat.le_of_ble_eq_true rfl) dX4_goBack_39 (fun H locs hP hD hS => ?_)
          have hP : PP G (xw G h (oI x 7 (nI 0)) w34 wa w0 w1 rd wr z jj lt) H := hP
          have hD : va_D A (xw G h (oI x 7 (nI 0)) w34 wa w0 w1 rd wr z jj lt) := hD
          refine lv_aload_n hx hb dX4_goBack_42 rfl (lv_at hl 0 rfl) ?_
          refine va_get (D := gD G) (ci := 4) (v := .ref (h 10)) (C := RX4) (T := TX4) (N := 9) hx hb hts hiX4 hown hK hP 0 (xp_0 _ _ _ _ _ _ _ _ _ _ _ _) rfl 0 (by decide) k10 (fun _ h9 => h9) rfl dX4_goBack_43 ?_
          refine va_getN (D := gD G) (ci := 3) (v := .int (w34.1 0)) (C := RX3) (T := TX3) (N := 9) hx hb hts hiX3 hown hK hP 3 (xp_3 _ _ _ _ _ _ _ _ _ _ _ _) rfl 0 (by decide) k82 (fun _ h9 => h9) rfl dX4_goBack_46 ?_
          refine topE (e34a.trans (hnv0)) ?_
          exact W.iret (v := nI nv0) hx hb hr (fun t ht hW => ⟨⟨nI nv0, (oI x 7 (nI 0), w34, wa, w0, w1, rd, wr, z, jj, lt), rfl, ⟨_, _, _, _, _, _, _, _, _, _, rfl, ⟨nv0, nl0, e34a.trans (hnv0), by omega, e34b.trans (hnl0), by omega⟩, ⟨nva, nla, hnva, by omega, hnla, by omega⟩, ⟨nv0, nl0, hnv0, by omega, hnl0, by omega⟩, ⟨nv1, nl1, hnv1, by omega, hnl1, by omega⟩, rfl, rfl, rfl, rfl⟩, show PP G (xw G h (oI x 7 (nI 0)) w34 wa w0 w1 rd wr z jj lt) t.heap by rw [ht]; exact hP⟩, hS.F ht⟩) hS.2.2 dX4_goBack_49
        · skip
          refine lv_aload_n hx hb dX4_goBack_24 rfl (lv_at hl 0 rfl) ?_
          refine va_get (D := gD G) (ci := 4) (v := .ref (h 10)) (C := RX4) (T := TX4) (N := 9) hx hb hts hiX4 hown hK hP 0 (xp_0 _ _ _ _ _ _ _ _ _ _ _ _) rfl 0 (by decide) k10 (fun _ h9 => h9) rfl dX4_goBack_25 ?_
          refine lv_aload_n hx hb dX4_goBack_28 rfl (lv_at hl 0 rfl) ?_
          refine va_get (D := gD G) (ci := 4) (v := .ref (h 2)) (C := RX4) (T := TX4) (N := 9) hx hb hts hiX4 hown hK hP 0 (xp_0 _ _ _ _ _ _ _ _ _ _ _ _) rfl 2 (by decide) k19 (fun _ h9 => h9) rfl dX4_goBack_29 ?_
          refine lv_iload_n hx hb dX4_goBack_32 rfl (lv_at hl 1 rfl) ?_
          refine aaldW (f := fun i => some (h (30 + 10 * i))) (n := 2) (k := 1) (b := h 40) hx hb hK hP 1 (xp_1 _ _ _ _ _ _ _ _ _ _ _ _) rfl (by decide) rfl dX4_goBack_33 ?_
          refine cWv (As := [.ref (h 40)]) (rest := []) (S := oS × oS) (wa := xw G h x wn wa w0 w1 rd wr z jj lt) (wc := wb G (fun k => h (10 + k)) (fun k => h (40 + k)) wn w1) (w1 := fun v => wb G (fun k => h (10 + k)) (fun k => h (40 + k)) v.1 v.2) (wa' := fun v => xw G h x v.1 wa w0 v.2 rd wr z jj lt) ⟨hx, hb, hml, hown, hts⟩ (mt_X3_become l G (fun k => h (10 + k)) _ wn w1 (fun k => h (40 + k))) (cwV 1 hts gX4_goBack_X3_become rfl rfl rfl (by decide +kernel) ⟨Nat.le_of_ble_eq_true rfl, Nat.le_of_ble_eq_true rfl⟩) hK hN hP hD hS hA [3, 4, 5, 6, 7, 8, 9, 10, 27, 28, 29, 30, 31, 32, 33, 34] (yc_now_im1 _ _ _ _ _ _ _ _ _ _ _ _) (by decide) (yf_now_im1 _ _ _ _ _ _ _ _ _ _ _ _) (fun _ => rfl) (fun v => yo_now_im1 _ _ _ _ _ _ _ _ _ _ _ _ v) (fun v => ym_now_im1 _ _ _ _ _ _ _ _ _ _ _ _ v) 0 3 rfl rfl rfl hl.1 rfl (Nat.le_of_ble_eq_true rfl) ⟨Nat.zero_le _, Nat.zero_le _⟩ dX4_goBack_34 (fun u34 H locs hw34 hP hD hS => ?_)
          obtain ⟨w34, rfl, e34a, e34b⟩ := hw34
          have hP : PP G (xw G h x w34 wa w0 w1 rd wr z jj lt) H := hP
          have hD : va_D A (xw G h x w34 wa w0 w1 rd wr z jj lt) := hD
          refine lv_aload_n hx hb dX4_goBack_37 rfl (lv_at hl 0 rfl) ?_
          refine lv_iconst (v := nI 0) hx hb dX4_goBack_38 (by decide) ?_
          refine va_put (D := gD G) (ci := 4) (v := .int (nI 0)) (ty := .boolean) (C := RX4) (T := TX4) (N := 9) hx hb hts hiX4 tyX4 tyX4_ok nmX4 hown hK hP hD hS 0 (xp_0 _ _ _ _ _ _ _ _ _ _ _ _) rfl 7 (by decide) k48 (fun _ h9 => h9) rfl (by decide +kernel) (rfl) (rfl) (Nat.le_of_ble_eq_true rfl) dX4_goBack_39 (fun H locs hP hD hS => ?_)
          have hP : PP G (xw G h (oI x 7 (nI 0)) w34 wa w0 w1 rd wr z jj lt) H := hP
          have hD : va_D A (xw G h (oI x 7 (nI 0)) w34 wa w0 w1 rd wr z jj lt) := hD
          refine lv_aload_n hx hb dX4_goBack_42 rfl (lv_at hl 0 rfl) ?_
          refine va_get (D := gD G) (ci := 4) (v := .ref (h 10)) (C := RX4) (T := TX4) (N := 9) hx hb hts hiX4 hown hK hP 0 (xp_0 _ _ _ _ _ _ _ _ _ _ _ _) rfl 0 (by decide) k10 (fun _ h9 => h9) rfl dX4_goBack_43 ?_
          refine va_getN (D := gD G) (ci := 3) (v := .int (w34.1 0)) (C := RX3) (T := TX3) (N := 9) hx hb hts hiX3 hown hK hP 3 (xp_3 _ _ _ _ _ _ _ _ _ _ _ _) rfl 0 (by decide) k82 (fun _ h9 => h9) rfl dX4_goBack_46 ?_
          refine topE (e34a.trans (hnv1)) ?_
          exact W.iret (v := nI nv1) hx hb hr (fun t ht hW => ⟨⟨nI nv1, (oI x 7 (nI 0), w34, wa, w0, w1, rd, wr, z, jj, lt), rfl, ⟨_, _, _, _, _, _, _, _, _, _, rfl, ⟨nv1, nl1, e34a.trans (hnv1), by omega, e34b.trans (hnl1), by omega⟩, ⟨nva, nla, hnva, by omega, hnla, by omega⟩, ⟨nv0, nl0, hnv0, by omega, hnl0, by omega⟩, ⟨nv1, nl1, hnv1, by omega, hnl1, by omega⟩, rfl, rfl, rfl, rfl⟩, show PP G (xw G h (oI x 7 (nI 0)) w34 wa w0 w1 rd wr z jj lt) t.heap by rw [ht]; exact hP⟩, hS.F ht⟩) hS.2.2 dX4_goBack_49
      · skip
        refine lv_ldc (v := (-1000000003 : Int32)) hx hb hown (hts (.constant RX4 148 (-1000000003)) (List.mem_of_getElem? (i := 3) rfl)) dX4_goBack_21 ?_
        exact W.iret (v := (-1000000003 : Int32)) hx hb hr (fun t ht hW => ⟨⟨(-1000000003 : Int32), (x, wn, wa, w0, w1, rd, wr, z, jj, lt), rfl, ⟨_, _, _, _, _, _, _, _, _, _, rfl, ⟨nv, nl, hnv, by omega, hnl, by omega⟩, ⟨nva, nla, hnva, by omega, hnla, by omega⟩, ⟨nv0, nl0, hnv0, by omega, hnl0, by omega⟩, ⟨nv1, nl1, hnv1, by omega, hnl1, by omega⟩, rfl, rfl, rfl, rfl⟩, show PP G (xw G h x wn wa w0 w1 rd wr z jj lt) t.heap by rw [ht]; exact hP⟩, hS.F ht⟩) hS.2.2 dX4_goBack_23
    · skip
      refine lv_ldc (v := (-1000000001 : Int32)) hx hb hown (hts (.constant RX4 110 (-1000000001)) (List.mem_of_getElem? (i := 1) rfl)) dX4_goBack_9 ?_
      exact W.iret (v := (-1000000001 : Int32)) hx hb hr (fun t ht hW => ⟨⟨(-1000000001 : Int32), (x, wn, wa, w0, w1, rd, wr, z, jj, lt), rfl, ⟨_, _, _, _, _, _, _, _, _, _, rfl, ⟨nv, nl, hnv, by omega, hnl, by omega⟩, ⟨nva, nla, hnva, by omega, hnla, by omega⟩, ⟨nv0, nl0, hnv0, by omega, hnl0, by omega⟩, ⟨nv1, nl1, hnv1, by omega, hnl1, by omega⟩, rfl, rfl, rfl, rfl⟩, show PP G (xw G h x wn wa w0 w1 rd wr z jj lt) t.heap by rw [ht]; exact hP⟩, hS.F ht⟩) hS.2.2 dX4_goBack_11
