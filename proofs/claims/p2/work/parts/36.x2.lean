set_option maxHeartbeats 1000000 in
set_option maxRecDepth 100000 in
theorem mt_X4_block (l : Launch) (G : gG) (h : Nat → Nat) (x : oS) (wn : oS) (wa : oS) (w0 : oS) (w1 : oS) (rd : oS) (wr : oS) (z : oS) (jj : Nat → Nat → Int64) (lt : Int64) (nv : Nat) (nl : Nat) (a : Int32) (b : Int32) (hnv : wn.1 0 = nI nv) (hnl : wn.1 5 = nI nl) (hnv24 : nv ≤ 24) (hnl120 : nl ≤ 120) : Met l yX4_block wsX4_block ({ frames := 2, cells := 0, slots := 0, locals := 44 }) (preR G (xw G h x wn wa w0 w1 rd wr z jj lt) [.ref (h 0), .int a, .int b]) (vp_Si (fun r : Int32 => True)) 0 0 (fun _ => False) := by
  refine Met.ofW (cc := cX4_block) (maxL := 4) (ret := (some .int)) (by decide) rfl ?_
  intro p e s m args below meth c s₁ B hml hv
  obtain ⟨ha, hP, hK, hN⟩ := hv
  subst ha
  have hx := B.exec
  have hb := B.bytes
  have hr := B.returns
  have hts := atoms_spec (ws := wsX4_block) B.pre
  have hown : s.vm.findClass RX4 = some m.cls := findClass_of_methodNamed B.named
  have hlocks := B.notSynchronized
  have hiX4 : ∀ w ∈ wsX40, w ∈ wsX4_block := by decide +kernel
  have k10 := hts (.fieldLink RX4 10 "WovenHistory" "now" "LWovenHistory$Weave;") (List.mem_of_getElem? (i := 2) rfl)
  have hl := lv_entry ([.ref (h 0), .int a, .int b]) (n := 4) (Nat.le_of_ble_eq_true rfl)
  rw [lg_entry_eq]
  generalize (lg_sl ([.ref (h 0), .int a, .int b]) ++ List.replicate (4 - (lg_sl ([.ref (h 0), .int a, .int b])).length) Slot.unset).toArray = ls at hl ⊢
  have hl : lv_has ls 4 [(0, .ref (h 0)), (1, .int a), (2, .int b)] := hl
  refine lv_iload_n hx hb dX4_block_0 rfl (lv_at hl 1 rfl) ?_
  refine lv_if_lt (tgt := 13) hx hb dX4_block_1 (by decide) (fun c1 => ?_) (fun c1 => ?_)
  · skip
    refine lv_ldc (v := (-1000000002 : Int32)) hx hb hown (hts (.constant RX4 56 (-1000000002)) (List.mem_of_getElem? (i := 1) rfl)) dX4_block_13 ?_
    exact W.iret (v := (-1000000002 : Int32)) hx hb hr (fun t ht hW => ⟨(-1000000002 : Int32), rfl, by first | rfl | trivial | omega | assumption, ht⟩) (fun _ h9 => by cases h9) dX4_block_15
  · skip
    refine lv_iload_n hx hb dX4_block_4 rfl (lv_at hl 2 rfl) ?_
    refine lv_if_lt (tgt := 13) hx hb dX4_block_5 (by decide) (fun c5 => ?_) (fun c5 => ?_)
    · skip
      refine lv_ldc (v := (-1000000002 : Int32)) hx hb hown (hts (.constant RX4 56 (-1000000002)) (List.mem_of_getElem? (i := 1) rfl)) dX4_block_13 ?_
      exact W.iret (v := (-1000000002 : Int32)) hx hb hr (fun t ht hW => ⟨(-1000000002 : Int32), rfl, by first | rfl | trivial | omega | assumption, ht⟩) (fun _ h9 => by cases h9) dX4_block_15
    · skip
      refine lv_iload_n hx hb dX4_block_8 rfl (lv_at hl 2 rfl) ?_
      refine lv_iconst (v := nI 1) hx hb dX4_block_9 (by decide) ?_
      refine lv_icmp_le (tgt := 16) hx hb dX4_block_10 (by decide) (fun c10 => ?_) (fun c10 => ?_)
      · skip
        refine lv_aload_n hx hb dX4_block_16 rfl (lv_at hl 0 rfl) ?_
        refine va_get (D := gD G) (ci := 4) (v := .ref (h 10)) (C := RX4) (T := TX4) (N := 9) hx hb hts hiX4 hown hK hP 0 (xp_0 _ _ _ _ _ _ _ _ _ _ _ _) rfl 0 (by decide) k10 (fun _ h9 => h9) rfl dX4_block_17 ?_
        refine lv_iload_n hx hb dX4_block_20 rfl (lv_at hl 1 rfl) ?_
        refine cRi (w := wv G (fun k => h (10 + k)) wn) (As := [.int a]) (rest := []) ⟨hx, hb, hml, hown, hts⟩ (mt_X3_findBlock l G (fun k => h (10 + k)) wn nl a (hnl) (by first | assumption | omega)) (cwV 1 hts gX4_block_X3_findBlock rfl rfl rfl (by decide +kernel) ⟨Nat.le_of_ble_eq_true rfl, Nat.le_of_ble_eq_true rfl⟩) hK hN (hP.sub [3, 4, 5, 6, 7, 8, 9, 10] (xf_now _ _ _ _ _ _ _ _ _ _ _ _)) 0 3 rfl rfl rfl hl.1 rfl (Nat.le_of_ble_eq_true rfl) ⟨Nat.zero_le _, Nat.zero_le _⟩ dX4_block_21 (fun r21 hw21 => ?_)
        rcases hw21 with ⟨i21, hi21, rfl⟩ | rfl
        · skip
          refine lv_istore_n (lv' := [(3, .int (nI (i21))), (0, .ref (h 0)), (1, .int a), (2, .int b)]) hx hb dX4_block_24 rfl hl (by decide) rfl (fun ls hl => ?_)
          refine lv_iload_n hx hb dX4_block_25 rfl (lv_at hl 0 rfl) ?_
          refine lv_iconst (v := (-1 : Int32)) hx hb dX4_block_26 (by decide) ?_
          refine lv_icmp_eq (tgt := 34) hx hb dX4_block_27 (by decide) (fun c9 => absurd c9 (nI_nm1 (by omega))) (fun _ => ?_)
          refine lv_iload_n hx hb dX4_block_30 rfl (lv_at hl 3 rfl) ?_
          refine lv_if_ne (tgt := 36) hx hb dX4_block_31 (by decide) (fun c31 => ?_) (fun c31 => ?_)
          · skip
            refine lv_aload_n hx hb dX4_block_36 rfl (lv_at hl 1 rfl) ?_
            refine va_get (D := gD G) (ci := 4) (v := .ref (h 10)) (C := RX4) (T := TX4) (N := 9) hx hb hts hiX4 hown hK hP 0 (xp_0 _ _ _ _ _ _ _ _ _ _ _ _) rfl 0 (by decide) k10 (fun _ h9 => h9) rfl dX4_block_37 ?_
            refine lv_iload_n hx hb dX4_block_40 rfl (lv_at hl 0 rfl) ?_
            refine cRi (w := wv G (fun k => h (10 + k)) wn) (As := [.int (nI (i21))]) (rest := []) ⟨hx, hb, hml, hown, hts⟩ (mt_X3_blockLength l G (fun k => h (10 + k)) wn nl i21 (hnl) (by first | assumption | omega) (by first | assumption | omega)) (cwV 1 hts gX4_block_X3_blockLength rfl rfl rfl (by decide +kernel) ⟨Nat.le_of_ble_eq_true rfl, Nat.le_of_ble_eq_true rfl⟩) hK hN (hP.sub [3, 4, 5, 6, 7, 8, 9, 10] (xf_now _ _ _ _ _ _ _ _ _ _ _ _)) 0 3 rfl rfl rfl hl.1 rfl (Nat.le_of_ble_eq_true rfl) ⟨Nat.zero_le _, Nat.zero_le _⟩ dX4_block_41 (fun r41 hw41 => ?_)
            exact W.iret (v := r41) hx hb hr (fun t ht hW => ⟨r41, rfl, by first | rfl | trivial | omega | assumption, ht⟩) (fun _ h9 => by cases h9) dX4_block_44
          · skip
            refine lv_iload_n hx hb dX4_block_34 rfl (lv_at hl 0 rfl) ?_
            exact W.iret (v := nI (i21)) hx hb hr (fun t ht hW => ⟨nI (i21), rfl, by first | rfl | trivial | omega | assumption, ht⟩) (fun _ h9 => by cases h9) dX4_block_35
        · skip
          refine lv_istore_n (lv' := [(3, .int (-1 : Int32)), (0, .ref (h 0)), (1, .int a), (2, .int b)]) hx hb dX4_block_24 rfl hl (by decide) rfl (fun ls hl => ?_)
          refine lv_iload_n hx hb dX4_block_25 rfl (lv_at hl 0 rfl) ?_
          refine lv_iconst (v := (-1 : Int32)) hx hb dX4_block_26 (by decide) ?_
          refine lv_icmp_eq (tgt := 34) hx hb dX4_block_27 (by decide) (fun _ => ?_) (fun c9 => absurd (by decide) c9)
          refine lv_iload_n hx hb dX4_block_34 rfl (lv_at hl 0 rfl) ?_
          exact W.iret (v := (-1 : Int32)) hx hb hr (fun t ht hW => ⟨(-1 : Int32), rfl, by first | rfl | trivial | omega | assumption, ht⟩) (fun _ h9 => by cases h9) dX4_block_35
      · skip
        refine lv_ldc (v := (-1000000002 : Int32)) hx hb hown (hts (.constant RX4 56 (-1000000002)) (List.mem_of_getElem? (i := 1) rfl)) dX4_block_13 ?_
        exact W.iret (v := (-1000000002 : Int32)) hx hb hr (fun t ht hW => ⟨(-1000000002 : Int32), rfl, by first | rfl | trivial | omega | assumption, ht⟩) (fun _ h9 => by cases h9) dX4_block_15
set_option maxHeartbeats 1000000 in
set_option maxRecDepth 100000 in
theorem mt_X4_get (l : Launch) (G : gG) (h : Nat → Nat) (x : oS) (wn : oS) (wa : oS) (w0 : oS) (w1 : oS) (rd : oS) (wr : oS) (z : oS) (jj : Nat → Nat → Int64) (lt : Int64) (s1 : Int32) (i1 : Int32) (hsz : ∀ j, j < 4 → z.2 1 j = -1 ∨ ∃ q, q ≤ 40 ∧ z.2 1 j = nI q) : Met l yX4_get wsX4_get ({ frames := 2, cells := 0, slots := 0, locals := 44 }) (preR G (xw G h x wn wa w0 w1 rd wr z jj lt) [.ref (h 0), .int s1, .int i1]) (vp_Sl (fun r : Int64 => True)) 0 0 (fun _ => False) := by
  refine Met.ofW (cc := cX4_get) (maxL := 4) (ret := (some .long)) (by decide) rfl ?_
  intro p e s m args below meth c s₁ B hml hv
  obtain ⟨ha, hP, hK, hN⟩ := hv
  subst ha
  have hx := B.exec
  have hb := B.bytes
  have hr := B.returns
  have hts := atoms_spec (ws := wsX4_get) B.pre
  have hown : s.vm.findClass RX4 = some m.cls := findClass_of_methodNamed B.named
  have hlocks := B.notSynchronized
  have hiX4 : ∀ w ∈ wsX40, w ∈ wsX4_get := by decide +kernel
  have k37 := hts (.fieldLink RX4 37 "WovenHistory" "sheets" "LWovenHistory$Sheets;") (List.mem_of_getElem? (i := 1) rfl)
  have hiX2 : ∀ w ∈ wsX20, w ∈ wsX4_get := by decide +kernel
  have k229 : (Cond.fieldLinkNest "WovenHistory" 229 "WovenHistory$Sheets" "numbers" "[[J" "WovenHistory").before _ s = true := va_Nw.use (A := ([.ref (h 0), .int s1, .int i1] : List Value).toArray) rfl (hN.1 ("WovenHistory", 229, "WovenHistory$Sheets", "numbers", "[[J") (List.mem_of_getElem? (i := 7) rfl))
  have hl := lv_entry ([.ref (h 0), .int s1, .int i1]) (n := 4) (Nat.le_of_ble_eq_true rfl)
  rw [lg_entry_eq]
  generalize (lg_sl ([.ref (h 0), .int s1, .int i1]) ++ List.replicate (4 - (lg_sl ([.ref (h 0), .int s1, .int i1])).length) Slot.unset).toArray = ls at hl ⊢
  have hl : lv_has ls 4 [(0, .ref (h 0)), (1, .int s1), (2, .int i1)] := hl
  refine lv_aload_n hx hb dX4_get_0 rfl (lv_at hl 0 rfl) ?_
  refine va_get (D := gD G) (ci := 4) (v := .ref (h 70)) (C := RX4) (T := TX4) (N := 9) hx hb hts hiX4 hown hK hP 0 (xp_0 _ _ _ _ _ _ _ _ _ _ _ _) rfl 5 (by decide) k37 (fun _ h9 => h9) rfl dX4_get_1 ?_
  refine lv_iload_n hx hb dX4_get_4 rfl (lv_at hl 1 rfl) ?_
  refine lv_iload_n hx hb dX4_get_5 rfl (lv_at hl 2 rfl) ?_
  refine lv_iconst (v := nI 1) hx hb dX4_get_6 (by decide) ?_
  refine cRi (w := sv G (fun k => h (70 + k)) z jj) (As := [.int s1, .int i1, .int (nI 1)]) (rest := []) ⟨hx, hb, hml, hown, hts⟩ (mt_X2_findWrong l G (fun k => h (70 + k)) z jj s1 i1 (nI 1) (by first | assumption | omega)) (cwV 3 hts gX4_get_X2_findWrong rfl rfl rfl (by decide +kernel) ⟨Nat.le_of_ble_eq_true rfl, Nat.le_of_ble_eq_true rfl⟩) hK hN (hP.sub [47, 48, 49, 50, 51, 52, 53] (xf_z _ _ _ _ _ _ _ _ _ _ _ _)) 0 2 rfl rfl rfl hl.1 rfl (Nat.le_of_ble_eq_true rfl) ⟨Nat.zero_le _, Nat.zero_le _⟩ dX4_get_7 (fun r7 hw7 => ?_)
  rcases hw7 with ⟨rfl, js7, ji7, nn7, q7, hjs7, rfl, hq7, eq7, rfl, enn7, hs7⟩ | ⟨rfl, hnu7⟩ | ⟨rfl, js7, hjs7, ejs7, eq7⟩ | ⟨rfl, js7, q7, hjs7, ejs7, hq7, eq7, hpl7⟩
  · skip
    refine lv_istore_n (lv' := [(3, .int (0 : Int32)), (0, .ref (h 0)), (1, .int (nI js7)), (2, .int (nI ji7))]) hx hb dX4_get_10 rfl hl (by decide) rfl (fun ls hl => ?_)
    refine lv_iload_n hx hb dX4_get_11 rfl (lv_at hl 0 rfl) ?_
    refine lv_if_eq (tgt := 20) hx hb dX4_get_12 (by decide) (fun _ => ?_) (fun c9 => absurd (by decide) c9)
    have hnn : 1 = nn7 := (nI_eq (a := 1) (b := nn7) (by omega) (by omega)).mp enn7
    rcases (show js7 = 0 ∨ js7 = 1 ∨ js7 = 2 ∨ js7 = 3 by omega) with rfl | rfl | rfl | rfl
    · skip
      refine lv_aload_n hx hb dX4_get_20 rfl (lv_at hl 1 rfl) ?_
      refine va_get (D := gD G) (ci := 4) (v := .ref (h 70)) (C := RX4) (T := TX4) (N := 9) hx hb hts hiX4 hown hK hP 0 (xp_0 _ _ _ _ _ _ _ _ _ _ _ _) rfl 5 (by decide) k37 (fun _ h9 => h9) rfl dX4_get_21 ?_
      refine va_getN (D := gD G) (ci := 2) (v := .ref (h 71)) (C := RX2) (T := TX2) (N := 2) hx hb hts hiX2 hown hK hP 47 (xp_47 _ _ _ _ _ _ _ _ _ _ _ _) rfl 0 (by decide) k229 (fun _ h9 => h9) rfl dX4_get_24 ?_
      refine lv_iload_n hx hb dX4_get_27 rfl (lv_at hl 2 rfl) ?_
      refine aaldJ (f := fun i => some (h (70 + (3 + i)))) (n := 4) (k := 0) (b := h 73) hx hb hK hP 48 (xp_48 _ _ _ _ _ _ _ _ _ _ _ _) rfl (by decide) rfl dX4_get_28 ?_
      refine lv_iload_n hx hb dX4_get_29 rfl (lv_at hl 3 rfl) ?_
      refine laldN (f := jj 0) (n := 40) (k := ji7) hx hb hK hP 50 (xp_50 _ _ _ _ _ _ _ _ _ _ _ _) rfl (by omega) dX4_get_30 ?_
      exact W.lret (v := (jj 0) ji7) hx hb hr (fun t ht hW => ⟨(jj 0) ji7, rfl, by first | rfl | trivial | omega | assumption, ht⟩) (fun _ h9 => by cases h9) dX4_get_31
    · skip
      refine lv_aload_n hx hb dX4_get_20 rfl (lv_at hl 1 rfl) ?_
      refine va_get (D := gD G) (ci := 4) (v := .ref (h 70)) (C := RX4) (T := TX4) (N := 9) hx hb hts hiX4 hown hK hP 0 (xp_0 _ _ _ _ _ _ _ _ _ _ _ _) rfl 5 (by decide) k37 (fun _ h9 => h9) rfl dX4_get_21 ?_
      refine va_getN (D := gD G) (ci := 2) (v := .ref (h 71)) (C := RX2) (T := TX2) (N := 2) hx hb hts hiX2 hown hK hP 47 (xp_47 _ _ _ _ _ _ _ _ _ _ _ _) rfl 0 (by decide) k229 (fun _ h9 => h9) rfl dX4_get_24 ?_
      refine lv_iload_n hx hb dX4_get_27 rfl (lv_at hl 2 rfl) ?_
      refine aaldJ (f := fun i => some (h (70 + (3 + i)))) (n := 4) (k := 1) (b := h 74) hx hb hK hP 48 (xp_48 _ _ _ _ _ _ _ _ _ _ _ _) rfl (by decide) rfl dX4_get_28 ?_
      refine lv_iload_n hx hb dX4_get_29 rfl (lv_at hl 3 rfl) ?_
      refine laldN (f := jj 1) (n := 40) (k := ji7) hx hb hK hP 51 (xp_51 _ _ _ _ _ _ _ _ _ _ _ _) rfl (by omega) dX4_get_30 ?_
      exact W.lret (v := (jj 1) ji7) hx hb hr (fun t ht hW => ⟨(jj 1) ji7, rfl, by first | rfl | trivial | omega | assumption, ht⟩) (fun _ h9 => by cases h9) dX4_get_31
    · skip
      refine lv_aload_n hx hb dX4_get_20 rfl (lv_at hl 1 rfl) ?_
      refine va_get (D := gD G) (ci := 4) (v := .ref (h 70)) (C := RX4) (T := TX4) (N := 9) hx hb hts hiX4 hown hK hP 0 (xp_0 _ _ _ _ _ _ _ _ _ _ _ _) rfl 5 (by decide) k37 (fun _ h9 => h9) rfl dX4_get_21 ?_
      refine va_getN (D := gD G) (ci := 2) (v := .ref (h 71)) (C := RX2) (T := TX2) (N := 2) hx hb hts hiX2 hown hK hP 47 (xp_47 _ _ _ _ _ _ _ _ _ _ _ _) rfl 0 (by decide) k229 (fun _ h9 => h9) rfl dX4_get_24 ?_
      refine lv_iload_n hx hb dX4_get_27 rfl (lv_at hl 2 rfl) ?_
      refine aaldJ (f := fun i => some (h (70 + (3 + i)))) (n := 4) (k := 2) (b := h 75) hx hb hK hP 48 (xp_48 _ _ _ _ _ _ _ _ _ _ _ _) rfl (by decide) rfl dX4_get_28 ?_
      refine lv_iload_n hx hb dX4_get_29 rfl (lv_at hl 3 rfl) ?_
      refine laldN (f := jj 2) (n := 40) (k := ji7) hx hb hK hP 52 (xp_52 _ _ _ _ _ _ _ _ _ _ _ _) rfl (by omega) dX4_get_30 ?_
      exact W.lret (v := (jj 2) ji7) hx hb hr (fun t ht hW => ⟨(jj 2) ji7, rfl, by first | rfl | trivial | omega | assumption, ht⟩) (fun _ h9 => by cases h9) dX4_get_31
    · skip
      refine lv_aload_n hx hb dX4_get_20 rfl (lv_at hl 1 rfl) ?_
      refine va_get (D := gD G) (ci := 4) (v := .ref (h 70)) (C := RX4) (T := TX4) (N := 9) hx hb hts hiX4 hown hK hP 0 (xp_0 _ _ _ _ _ _ _ _ _ _ _ _) rfl 5 (by decide) k37 (fun _ h9 => h9) rfl dX4_get_21 ?_
      refine va_getN (D := gD G) (ci := 2) (v := .ref (h 71)) (C := RX2) (T := TX2) (N := 2) hx hb hts hiX2 hown hK hP 47 (xp_47 _ _ _ _ _ _ _ _ _ _ _ _) rfl 0 (by decide) k229 (fun _ h9 => h9) rfl dX4_get_24 ?_
      refine lv_iload_n hx hb dX4_get_27 rfl (lv_at hl 2 rfl) ?_
      refine aaldJ (f := fun i => some (h (70 + (3 + i)))) (n := 4) (k := 3) (b := h 76) hx hb hK hP 48 (xp_48 _ _ _ _ _ _ _ _ _ _ _ _) rfl (by decide) rfl dX4_get_28 ?_
      refine lv_iload_n hx hb dX4_get_29 rfl (lv_at hl 3 rfl) ?_
      refine laldN (f := jj 3) (n := 40) (k := ji7) hx hb hK hP 53 (xp_53 _ _ _ _ _ _ _ _ _ _ _ _) rfl (by omega) dX4_get_30 ?_
      exact W.lret (v := (jj 3) ji7) hx hb hr (fun t ht hW => ⟨(jj 3) ji7, rfl, by first | rfl | trivial | omega | assumption, ht⟩) (fun _ h9 => by cases h9) dX4_get_31
  · skip
    refine lv_istore_n (lv' := [(3, .int (-1000000001 : Int32)), (0, .ref (h 0)), (1, .int s1), (2, .int i1)]) hx hb dX4_get_10 rfl hl (by decide) rfl (fun ls hl => ?_)
    refine lv_iload_n hx hb dX4_get_11 rfl (lv_at hl 0 rfl) ?_
    refine lv_if_eq (tgt := 20) hx hb dX4_get_12 (by decide) (fun c9 => absurd c9 (by decide)) (fun _ => ?_)
    refine lv_iload_n hx hb dX4_get_15 rfl (lv_at hl 0 rfl) ?_
    refine lv_i2l (v := (-1000000001 : Int32).toInt64) hx hb dX4_get_16 rfl ?_
    refine lv_goto (tgt := 31) hx hb dX4_get_17 (by decide) ?_
    exact W.lret (v := (-1000000001 : Int32).toInt64) hx hb hr (fun t ht hW => ⟨(-1000000001 : Int32).toInt64, rfl, by first | rfl | trivial | omega | assumption, ht⟩) (fun _ h9 => by cases h9) dX4_get_31
  · skip
    refine lv_istore_n (lv' := [(3, .int (-1000000011 : Int32)), (0, .ref (h 0)), (1, .int s1), (2, .int i1)]) hx hb dX4_get_10 rfl hl (by decide) rfl (fun ls hl => ?_)
    refine lv_iload_n hx hb dX4_get_11 rfl (lv_at hl 0 rfl) ?_
    refine lv_if_eq (tgt := 20) hx hb dX4_get_12 (by decide) (fun c9 => absurd c9 (by decide)) (fun _ => ?_)
    refine lv_iload_n hx hb dX4_get_15 rfl (lv_at hl 0 rfl) ?_
    refine lv_i2l (v := (-1000000011 : Int32).toInt64) hx hb dX4_get_16 rfl ?_
    refine lv_goto (tgt := 31) hx hb dX4_get_17 (by decide) ?_
    exact W.lret (v := (-1000000011 : Int32).toInt64) hx hb hr (fun t ht hW => ⟨(-1000000011 : Int32).toInt64, rfl, by first | rfl | trivial | omega | assumption, ht⟩) (fun _ h9 => by cases h9) dX4_get_31
  · skip
    refine lv_istore_n (lv' := [(3, .int (-1000000012 : Int32)), (0, .ref (h 0)), (1, .int s1), (2, .int i1)]) hx hb dX4_get_10 rfl hl (by decide) rfl (fun ls hl => ?_)
    refine lv_iload_n hx hb dX4_get_11 rfl (lv_at hl 0 rfl) ?_
    refine lv_if_eq (tgt := 20) hx hb dX4_get_12 (by decide) (fun c9 => absurd c9 (by decide)) (fun _ => ?_)
    refine lv_iload_n hx hb dX4_get_15 rfl (lv_at hl 0 rfl) ?_
    refine lv_i2l (v := (-1000000012 : Int32).toInt64) hx hb dX4_get_16 rfl ?_
    refine lv_goto (tgt := 31) hx hb dX4_get_17 (by decide) ?_
    exact W.lret (v := (-1000000012 : Int32).toInt64) hx hb hr (fun t ht hW => ⟨(-1000000012 : Int32).toInt64, rfl, by first | rfl | trivial | omega | assumption, ht⟩) (fun _ h9 => by cases h9) dX4_get_31
set_option maxHeartbeats 1000000 in
set_option maxRecDepth 100000 in
theorem mt_X4_isFilm (l : Launch) (G : gG) (h : Nat → Nat) (x : oS) (wn : oS) (wa : oS) (w0 : oS) (w1 : oS) (rd : oS) (wr : oS) (z : oS) (jj : Nat → Nat → Int64) (lt : Int64) (nv : Nat) (nl : Nat) (a : Int32) (s1 : Int32) (i1 : Int32) (n1 : Int32) (hnv : wn.1 0 = nI nv) (hnl : wn.1 5 = nI nl) (hnv24 : nv ≤ 24) (hnl120 : nl ≤ 120) (hsz : ∀ j, j < 4 → z.2 1 j = -1 ∨ ∃ q, q ≤ 40 ∧ z.2 1 j = nI q) : Met l yX4_isFilm wsX4_isFilm ({ frames := 3, cells := 0, slots := 0, locals := 67 }) (preR G (xw G h x wn wa w0 w1 rd wr z jj lt) [.ref (h 0), .int a, .int s1, .int i1, .int n1]) (vp_Si (fun r : Int32 => True)) 0 0 (fun _ => False) := by
  refine Met.ofW (cc := cX4_isFilm) (maxL := 8) (ret := (some .int)) (by decide) rfl ?_
  intro p e s m args below meth c s₁ B hml hv
  obtain ⟨ha, hP, hK, hN⟩ := hv
  subst ha
  have hx := B.exec
  have hb := B.bytes
  have hr := B.returns
  have hts := atoms_spec (ws := wsX4_isFilm) B.pre
  have hown : s.vm.findClass RX4 = some m.cls := findClass_of_methodNamed B.named
  have hlocks := B.notSynchronized
  have hiX4 : ∀ w ∈ wsX40, w ∈ wsX4_isFilm := by decide +kernel
  have k10 := hts (.fieldLink RX4 10 "WovenHistory" "now" "LWovenHistory$Weave;") (List.mem_of_getElem? (i := 1) rfl)
  have k37 := hts (.fieldLink RX4 37 "WovenHistory" "sheets" "LWovenHistory$Sheets;") (List.mem_of_getElem? (i := 2) rfl)
  have hiX3 : ∀ w ∈ wsX30, w ∈ wsX4_isFilm := by decide +kernel
  have k115 : (Cond.fieldLinkNest "WovenHistory" 115 "WovenHistory$Weave" "changes" "[I" "WovenHistory").before _ s = true := va_Nw.use (A := ([.ref (h 0), .int a, .int s1, .int i1, .int n1] : List Value).toArray) rfl (hN.1 ("WovenHistory", 115, "WovenHistory$Weave", "changes", "[I") (List.mem_of_getElem? (i := 1) rfl))
  have k85 : (Cond.fieldLinkNest "WovenHistory" 85 "WovenHistory$Weave" "lines" "I" "WovenHistory").before _ s = true := va_Nw.use (A := ([.ref (h 0), .int a, .int s1, .int i1, .int n1] : List Value).toArray) rfl (hN.1 ("WovenHistory", 85, "WovenHistory$Weave", "lines", "I") (List.mem_of_getElem? (i := 13) rfl))
  have hiX2 : ∀ w ∈ wsX20, w ∈ wsX4_isFilm := by decide +kernel
  have k229 : (Cond.fieldLinkNest "WovenHistory" 229 "WovenHistory$Sheets" "numbers" "[[J" "WovenHistory").before _ s = true := va_Nw.use (A := ([.ref (h 0), .int a, .int s1, .int i1, .int n1] : List Value).toArray) rfl (hN.1 ("WovenHistory", 229, "WovenHistory$Sheets", "numbers", "[[J") (List.mem_of_getElem? (i := 7) rfl))
  have k136 : (Cond.fieldLinkNest "WovenHistory" 136 "WovenHistory$Weave" "sign" "[I" "WovenHistory").before _ s = true := va_Nw.use (A := ([.ref (h 0), .int a, .int s1, .int i1, .int n1] : List Value).toArray) rfl (hN.1 ("WovenHistory", 136, "WovenHistory$Weave", "sign", "[I") (List.mem_of_getElem? (i := 4) rfl))
  have hl := lv_entry ([.ref (h 0), .int a, .int s1, .int i1, .int n1]) (n := 8) (Nat.le_of_ble_eq_true rfl)
  rw [lg_entry_eq]
  generalize (lg_sl ([.ref (h 0), .int a, .int s1, .int i1, .int n1]) ++ List.replicate (8 - (lg_sl ([.ref (h 0), .int a, .int s1, .int i1, .int n1])).length) Slot.unset).toArray = ls at hl ⊢
  have hl : lv_has ls 8 [(0, .ref (h 0)), (1, .int a), (2, .int s1), (3, .int i1), (4, .int n1)] := hl
  refine lv_aload_n hx hb dX4_isFilm_0 rfl (lv_at hl 0 rfl) ?_
  refine va_get (D := gD G) (ci := 4) (v := .ref (h 10)) (C := RX4) (T := TX4) (N := 9) hx hb hts hiX4 hown hK hP 0 (xp_0 _ _ _ _ _ _ _ _ _ _ _ _) rfl 0 (by decide) k10 (fun _ h9 => h9) rfl dX4_isFilm_1 ?_
  refine lv_iload_n hx hb dX4_isFilm_4 rfl (lv_at hl 1 rfl) ?_
  refine cRi (w := wv G (fun k => h (10 + k)) wn) (As := [.int a]) (rest := []) ⟨hx, hb, hml, hown, hts⟩ (mt_X3_hasVersion l G (fun k => h (10 + k)) wn nv a (hnv) (by first | assumption | omega)) (cwV 1 hts gX4_isFilm_X3_hasVersion rfl rfl rfl (by decide +kernel) ⟨Nat.le_of_ble_eq_true rfl, Nat.le_of_ble_eq_true rfl⟩) hK hN (hP.sub [3, 4, 5, 6, 7, 8, 9, 10] (xf_now _ _ _ _ _ _ _ _ _ _ _ _)) 0 3 rfl rfl rfl hl.1 rfl (Nat.le_of_ble_eq_true rfl) ⟨Nat.zero_le _, Nat.zero_le _⟩ dX4_isFilm_5 (fun r5 hw5 => ?_)
  rcases hw5 with ⟨rfl, a1, ha1, rfl⟩ | ⟨rfl, hna1⟩
  · skip
    refine lv_if_eq (tgt := 22) hx hb dX4_isFilm_8 (by decide) (fun c9 => absurd c9 (by decide)) (fun _ => ?_)
    refine lv_aload_n hx hb dX4_isFilm_11 rfl (lv_at hl 0 rfl) ?_
    refine va_get (D := gD G) (ci := 4) (v := .ref (h 70)) (C := RX4) (T := TX4) (N := 9) hx hb hts hiX4 hown hK hP 0 (xp_0 _ _ _ _ _ _ _ _ _ _ _ _) rfl 5 (by decide) k37 (fun _ h9 => h9) rfl dX4_isFilm_12 ?_
    refine lv_iload_n hx hb dX4_isFilm_15 rfl (lv_at hl 2 rfl) ?_
    refine cRi (w := sv G (fun k => h (70 + k)) z jj) (As := [.int s1]) (rest := []) ⟨hx, hb, hml, hown, hts⟩ (mt_X2_hasNumber l G (fun k => h (70 + k)) z jj s1) (cwV 1 hts gX4_isFilm_X2_hasNumber rfl rfl rfl (by decide +kernel) ⟨Nat.le_of_ble_eq_true rfl, Nat.le_of_ble_eq_true rfl⟩) hK hN (hP.sub [47, 48, 49, 50, 51, 52, 53] (xf_z _ _ _ _ _ _ _ _ _ _ _ _)) 0 2 rfl rfl rfl hl.1 rfl (Nat.le_of_ble_eq_true rfl) ⟨Nat.zero_le _, Nat.zero_le _⟩ dX4_isFilm_16 (fun r16 hw16 => ?_)
    rcases hw16 with ⟨rfl, j16, hj16, ej16⟩ | ⟨rfl, hn16⟩
    · skip
      refine lv_if_ne (tgt := 25) hx hb dX4_isFilm_19 (by decide) (fun _ => ?_) (fun c9 => absurd c9 (by decide))
      refine lv_iload hx hb dX4_isFilm_25 (lv_at hl 4 rfl) ?_
      refine lv_if_ge (tgt := 33) hx hb dX4_isFilm_27 (by decide) (fun c27 => ?_) (fun c27 => ?_)
      · skip
        refine lv_aload_n hx hb dX4_isFilm_33 rfl (lv_at hl 0 rfl) ?_
        refine va_get (D := gD G) (ci := 4) (v := .ref (h 70)) (C := RX4) (T := TX4) (N := 9) hx hb hts hiX4 hown hK hP 0 (xp_0 _ _ _ _ _ _ _ _ _ _ _ _) rfl 5 (by decide) k37 (fun _ h9 => h9) rfl dX4_isFilm_34 ?_
        refine lv_iload_n hx hb dX4_isFilm_37 rfl (lv_at hl 2 rfl) ?_
        refine lv_iload_n hx hb dX4_isFilm_38 rfl (lv_at hl 3 rfl) ?_
        refine lv_iload hx hb dX4_isFilm_39 (lv_at hl 4 rfl) ?_
        refine cRi (w := sv G (fun k => h (70 + k)) z jj) (As := [.int s1, .int i1, .int n1]) (rest := []) ⟨hx, hb, hml, hown, hts⟩ (mt_X2_findWrong l G (fun k => h (70 + k)) z jj s1 i1 n1 (by first | assumption | omega)) (cwV 3 hts gX4_isFilm_X2_findWrong rfl rfl rfl (by decide +kernel) ⟨Nat.le_of_ble_eq_true rfl, Nat.le_of_ble_eq_true rfl⟩) hK hN (hP.sub [47, 48, 49, 50, 51, 52, 53] (xf_z _ _ _ _ _ _ _ _ _ _ _ _)) 0 2 rfl rfl rfl hl.1 rfl (Nat.le_of_ble_eq_true rfl) ⟨Nat.zero_le _, Nat.zero_le _⟩ dX4_isFilm_41 (fun r41 hw41 => ?_)
        rcases hw41 with ⟨rfl, js41, ji41, nn41, q41, hjs41, rfl, hq41, eq41, rfl, rfl, hs41⟩ | ⟨rfl, hnu41⟩ | ⟨rfl, js41, hjs41, ejs41, eq41⟩ | ⟨rfl, js41, q41, hjs41, ejs41, hq41, eq41, hpl41⟩
        · skip
          refine lv_istore (lv' := [(5, .int (0 : Int32)), (0, .ref (h 0)), (1, .int (nI a1)), (2, .int (nI js41)), (3, .int (nI ji41)), (4, .int (nI nn41))]) hx hb dX4_isFilm_44 hl (by decide) rfl (fun ls hl => ?_)
          refine lv_iload hx hb dX4_isFilm_46 (lv_at hl 0 rfl) ?_
          refine lv_if_eq (tgt := 54) hx hb dX4_isFilm_48 (by decide) (fun _ => ?_) (fun c9 => absurd (by decide) c9)
          refine lv_iload hx hb dX4_isFilm_54 (lv_at hl 5 rfl) ?_
          refine lv_aload_n hx hb dX4_isFilm_56 rfl (lv_at hl 1 rfl) ?_
          refine va_get (D := gD G) (ci := 4) (v := .ref (h 10)) (C := RX4) (T := TX4) (N := 9) hx hb hts hiX4 hown hK hP 0 (xp_0 _ _ _ _ _ _ _ _ _ _ _ _) rfl 0 (by decide) k10 (fun _ h9 => h9) rfl dX4_isFilm_57 ?_
          refine lv_aload_n hx hb dX4_isFilm_60 rfl (lv_at hl 1 rfl) ?_
          refine va_get (D := gD G) (ci := 4) (v := .ref (h 10)) (C := RX4) (T := TX4) (N := 9) hx hb hts hiX4 hown hK hP 0 (xp_0 _ _ _ _ _ _ _ _ _ _ _ _) rfl 0 (by decide) k10 (fun _ h9 => h9) rfl dX4_isFilm_61 ?_
          refine va_getN (D := gD G) (ci := 3) (v := .ref (h 14)) (C := RX3) (T := TX3) (N := 9) hx hb hts hiX3 hown hK hP 3 (xp_3 _ _ _ _ _ _ _ _ _ _ _ _) rfl 4 (by decide) k115 (fun _ h9 => h9) rfl dX4_isFilm_64 ?_
          refine lv_iload_n hx hb dX4_isFilm_67 rfl (lv_at hl 2 rfl) ?_
          refine ialdN (f := wn.2 4) (n := 24) (k := a1) hx hb hK hP 7 (xp_7 _ _ _ _ _ _ _ _ _ _ _ _) rfl (by omega) dX4_isFilm_68 ?_
          refine cRi (w := wv G (fun k => h (10 + k)) wn) (As := [.int ((wn.2 4) a1)]) (rest := [.int (nI nn41)]) ⟨hx, hb, hml, hown, hts⟩ (mt_X3_countStanding l G (fun k => h (10 + k)) wn nl ((wn.2 4) a1) (hnl) (by first | assumption | omega)) (cwV 1 hts gX4_isFilm_X3_countStanding rfl rfl rfl (by decide +kernel) ⟨Nat.le_of_ble_eq_true rfl, Nat.le_of_ble_eq_true rfl⟩) hK hN (hP.sub [3, 4, 5, 6, 7, 8, 9, 10] (xf_now _ _ _ _ _ _ _ _ _ _ _ _)) 0 3 rfl rfl rfl hl.1 rfl (Nat.le_of_ble_eq_true rfl) ⟨Nat.zero_le _, Nat.zero_le _⟩ dX4_isFilm_69 (fun r69 hw69 => ?_)
          obtain rfl := hw69
          have hc69 := cnt_le (sdb (wn.2 7) (wn.2 8) ((wn.2 4) a1)) nl
          refine lv_icmp_eq (tgt := 77) hx hb dX4_isFilm_72 (by decide) (fun c72 => ?_) (fun c72 => ?_)
          · skip
            have n72 : nn41 = (cnt (sdb (wn.2 7) (wn.2 8) ((wn.2 4) a1)) nl) := (nI_eq (a := nn41) (b := cnt (sdb (wn.2 7) (wn.2 8) ((wn.2 4) a1)) nl) (by omega) (by omega)).mp c72
            rcases (show js41 = 0 ∨ js41 = 1 ∨ js41 = 2 ∨ js41 = 3 by omega) with rfl | rfl | rfl | rfl
            · skip
              refine lv_iload_n hx hb dX4_isFilm_77 rfl (lv_at hl 4 rfl) ?_
              refine lv_istore (lv' := [(6, .int (nI ji41)), (5, .int (0 : Int32)), (0, .ref (h 0)), (1, .int (nI a1)), (2, .int (nI 0)), (3, .int (nI ji41)), (4, .int (nI nn41))]) hx hb dX4_isFilm_78 hl (by decide) rfl (fun ls hl => ?_)
              refine lv_iconst (v := nI 0) hx hb dX4_isFilm_80 (by decide) ?_
              refine lv_istore (lv' := [(7, .int (nI 0)), (6, .int (nI ji41)), (5, .int (0 : Int32)), (0, .ref (h 0)), (1, .int (nI a1)), (2, .int (nI 0)), (3, .int (nI ji41)), (4, .int (nI nn41))]) hx hb dX4_isFilm_81 hl (by decide) rfl (fun ls hl => ?_)
              have LP83 : ∀ (n83m : Nat), ∀ (k : Nat) (pp : Nat) (hk : k ≤ nl) (hp : pp = ji41 + cnt (sdb (wn.2 7) (wn.2 8) (wn.2 4 a1)) k), (nl - k < n83m) → ∀ (ls : Array Slot), lv_has ls 8 [(0, .ref (h 0)), (1, .int (nI a1)), (2, .int (nI 0)), (6, .int (nI pp)), (7, .int (nI k))] → W p l e (headSpec wsX4_isFilm ({ frames := 3, cells := 0, slots := 0, locals := 67 })).room s m ([.ref (h 0), .int (nI a1), .int (nI 0), .int (nI ji41), .int (nI nn41)] : List Value).toArray below meth c s.heap [] 0 0 (MQ below (vp_Si (fun r : Int32 => True)) ([.ref (h 0), .int (nI a1), .int (nI 0), .int (nI ji41), .int (nI nn41)] : List Value).toArray s 0 0 (fun _ => False)) (F0 m 83 ls []) := by
                intro n83m
                induction n83m with
                | zero => intro k pp hk hp hmu ls hl; exact absurd hmu (Nat.not_lt_zero _)
                | succ n83m ih83 =>
                  intro k pp hk hp hmu ls hl
                  refine lv_iload hx hb dX4_isFilm_83 (lv_at hl 4 rfl) ?_
                  refine lv_aload_n hx hb dX4_isFilm_85 rfl (lv_at hl 0 rfl) ?_
                  refine va_get (D := gD G) (ci := 4) (v := .ref (h 10)) (C := RX4) (T := TX4) (N := 9) hx hb hts hiX4 hown hK hP 0 (xp_0 _ _ _ _ _ _ _ _ _ _ _ _) rfl 0 (by decide) k10 (fun _ h9 => h9) rfl dX4_isFilm_86 ?_
                  refine va_getN (D := gD G) (ci := 3) (v := .int (wn.1 5)) (C := RX3) (T := TX3) (N := 9) hx hb hts hiX3 hown hK hP 3 (xp_3 _ _ _ _ _ _ _ _ _ _ _ _) rfl 5 (by decide) k85 (fun _ h9 => h9) rfl dX4_isFilm_89 ?_
                  refine topE hnl ?_
                  refine lv_icmp_ge (tgt := 158) hx hb dX4_isFilm_92 (by decide) (fun c92 => ?_) (fun c92 => ?_)
                  · skip
                    have n92 : nl ≤ k := (nI_leI (a := nl) (b := k) (by omega) (by omega)).mp c92
                    refine lv_iconst (v := nI 1) hx hb dX4_isFilm_158 (by decide) ?_
                    exact W.iret (v := nI 1) hx hb hr (fun t ht hW => ⟨nI 1, rfl, by first | rfl | trivial | omega | assumption, ht⟩) (fun _ h9 => by cases h9) dX4_isFilm_159
                  · skip
                    have n92 : ¬ (nl ≤ k) := fun q9 => c92 ((nI_leI (a := nl) (b := k) (by omega) (by omega)).mpr q9)
                    refine lv_aload_n hx hb dX4_isFilm_95 rfl (lv_at hl 0 rfl) ?_
                    refine va_get (D := gD G) (ci := 4) (v := .ref (h 10)) (C := RX4) (T := TX4) (N := 9) hx hb hts hiX4 hown hK hP 0 (xp_0 _ _ _ _ _ _ _ _ _ _ _ _) rfl 0 (by decide) k10 (fun _ h9 => h9) rfl dX4_isFilm_96 ?_
                    refine lv_iload hx hb dX4_isFilm_99 (lv_at hl 4 rfl) ?_
                    refine lv_aload_n hx hb dX4_isFilm_101 rfl (lv_at hl 0 rfl) ?_
                    refine va_get (D := gD G) (ci := 4) (v := .ref (h 10)) (C := RX4) (T := TX4) (N := 9) hx hb hts hiX4 hown hK hP 0 (xp_0 _ _ _ _ _ _ _ _ _ _ _ _) rfl 0 (by decide) k10 (fun _ h9 => h9) rfl dX4_isFilm_102 ?_
                    refine va_getN (D := gD G) (ci := 3) (v := .ref (h 14)) (C := RX3) (T := TX3) (N := 9) hx hb hts hiX3 hown hK hP 3 (xp_3 _ _ _ _ _ _ _ _ _ _ _ _) rfl 4 (by decide) k115 (fun _ h9 => h9) rfl dX4_isFilm_105 ?_
                    refine lv_iload_n hx hb dX4_isFilm_108 rfl (lv_at hl 1 rfl) ?_
                    refine ialdN (f := wn.2 4) (n := 24) (k := a1) hx hb hK hP 7 (xp_7 _ _ _ _ _ _ _ _ _ _ _ _) rfl (by omega) dX4_isFilm_109 ?_
                    refine cRi (w := wv G (fun k => h (10 + k)) wn) (As := [.int (nI k), .int ((wn.2 4) a1)]) (rest := []) ⟨hx, hb, hml, hown, hts⟩ (mt_X3_stands l G (fun k => h (10 + k)) wn k ((wn.2 4) a1) (by first | assumption | omega)) (cwV 2 hts gX4_isFilm_X3_stands rfl rfl rfl (by decide +kernel) ⟨Nat.le_of_ble_eq_true rfl, Nat.le_of_ble_eq_true rfl⟩) hK hN (hP.sub [3, 4, 5, 6, 7, 8, 9, 10] (xf_now _ _ _ _ _ _ _ _ _ _ _ _)) 0 3 rfl rfl rfl hl.1 rfl (Nat.le_of_ble_eq_true rfl) ⟨Nat.zero_le _, Nat.zero_le _⟩ dX4_isFilm_110 (fun r110 hw110 => ?_)
                    rcases hw110 with ⟨rfl, hy110⟩ | ⟨rfl, hn110⟩
                    · skip
                      refine lv_if_eq (tgt := 152) hx hb dX4_isFilm_113 (by decide) (fun c9 => absurd c9 (by decide)) (fun _ => ?_)
                      have hm113 := cnt_mono (sdb (wn.2 7) (wn.2 8) (wn.2 4 a1)) (a := k + 1) (b := nl) (by omega)
                      rw [cnt_t (by assumption)] at hm113
                      refine lv_aload_n hx hb dX4_isFilm_116 rfl (lv_at hl 0 rfl) ?_
                      refine va_get (D := gD G) (ci := 4) (v := .ref (h 70)) (C := RX4) (T := TX4) (N := 9) hx hb hts hiX4 hown hK hP 0 (xp_0 _ _ _ _ _ _ _ _ _ _ _ _) rfl 5 (by decide) k37 (fun _ h9 => h9) rfl dX4_isFilm_117 ?_
                      refine va_getN (D := gD G) (ci := 2) (v := .ref (h 71)) (C := RX2) (T := TX2) (N := 2) hx hb hts hiX2 hown hK hP 47 (xp_47 _ _ _ _ _ _ _ _ _ _ _ _) rfl 0 (by decide) k229 (fun _ h9 => h9) rfl dX4_isFilm_120 ?_
                      refine lv_iload_n hx hb dX4_isFilm_123 rfl (lv_at hl 2 rfl) ?_
                      refine aaldJ (f := fun i => some (h (70 + (3 + i)))) (n := 4) (k := 0) (b := h 73) hx hb hK hP 48 (xp_48 _ _ _ _ _ _ _ _ _ _ _ _) rfl (by decide) rfl dX4_isFilm_124 ?_
                      refine lv_iload hx hb dX4_isFilm_125 (lv_at hl 3 rfl) ?_
                      refine laldN (f := jj 0) (n := 40) (k := pp) hx hb hK hP 50 (xp_50 _ _ _ _ _ _ _ _ _ _ _ _) rfl (by omega) dX4_isFilm_127 ?_
                      refine lv_ldc2 (v := 255) hx hb hown (hts (.constantLong RX4 243 (255)) (List.mem_of_getElem? (i := 5) rfl)) dX4_isFilm_128 ?_
                      refine lv_land hx hb dX4_isFilm_131 ?_
                      refine lv_aload_n hx hb dX4_isFilm_132 rfl (lv_at hl 0 rfl) ?_
                      refine va_get (D := gD G) (ci := 4) (v := .ref (h 10)) (C := RX4) (T := TX4) (N := 9) hx hb hts hiX4 hown hK hP 0 (xp_0 _ _ _ _ _ _ _ _ _ _ _ _) rfl 0 (by decide) k10 (fun _ h9 => h9) rfl dX4_isFilm_133 ?_
                      refine va_getN (D := gD G) (ci := 3) (v := .ref (h 16)) (C := RX3) (T := TX3) (N := 9) hx hb hts hiX3 hown hK hP 3 (xp_3 _ _ _ _ _ _ _ _ _ _ _ _) rfl 6 (by decide) k136 (fun _ h9 => h9) rfl dX4_isFilm_136 ?_
                      refine lv_iload hx hb dX4_isFilm_139 (lv_at hl 4 rfl) ?_
                      refine ialdN (f := wn.2 6) (n := 120) (k := k) hx hb hK hP 8 (xp_8 _ _ _ _ _ _ _ _ _ _ _ _) rfl (by omega) dX4_isFilm_141 ?_
                      refine lv_i2l (v := ((wn.2 6) k).toInt64) hx hb dX4_isFilm_142 rfl ?_
                      refine W.lcmp hx hb dX4_isFilm_143 ?_
                      refine lv_if_eq (tgt := 149) hx hb dX4_isFilm_144 (by decide) (fun c144 => ?_) (fun c144 => ?_)
                      · skip
                        have n144 : (((jj 0) pp) &&& 255) = (((wn.2 6) k).toInt64) := (lg_cmp_eq _ _).mp c144
                        refine lv_iinc (v := nI (pp + 1)) (lv' := [(6, .int (nI (pp + 1))), (0, .ref (h 0)), (1, .int (nI a1)), (2, .int (nI 0)), (7, .int (nI k))]) hx hb dX4_isFilm_149 hl (k := 3) rfl (nI_1 pp) (by decide) rfl (fun ls hl => ?_)
                        refine lv_iinc (v := nI (k + 1)) (lv' := [(7, .int (nI (k + 1))), (6, .int (nI (pp + 1))), (0, .ref (h 0)), (1, .int (nI a1)), (2, .int (nI 0))]) hx hb dX4_isFilm_152 hl (k := 4) rfl (nI_1 k) (by decide) rfl (fun ls hl => ?_)
                        refine lv_goto (tgt := 83) hx hb dX4_isFilm_155 (by decide) ?_
                        exact ih83 (k + 1) (pp + 1) (by first | assumption | omega) (by first | rfl | omega | (rw [cnt_t (by assumption)]; omega) | (rw [cnt_f (by assumption)]; omega)) (by omega) ls (lv_sub hl [2, 3, 4, 1, 0] rfl)
                      · skip
                        have n144 : ¬ ((((jj 0) pp) &&& 255) = (((wn.2 6) k).toInt64)) := fun q9 => c144 ((lg_cmp_eq _ _).mpr q9)
                        refine lv_iconst (v := nI 0) hx hb dX4_isFilm_147 (by decide) ?_
                        exact W.iret (v := nI 0) hx hb hr (fun t ht hW => ⟨nI 0, rfl, by first | rfl | trivial | omega | assumption, ht⟩) (fun _ h9 => by cases h9) dX4_isFilm_148
                    · skip
                      refine lv_if_eq (tgt := 152) hx hb dX4_isFilm_113 (by decide) (fun _ => ?_) (fun c9 => absurd (by decide) c9)
                      refine lv_iinc (v := nI (k + 1)) (lv' := [(7, .int (nI (k + 1))), (0, .ref (h 0)), (1, .int (nI a1)), (2, .int (nI 0)), (6, .int (nI pp))]) hx hb dX4_isFilm_152 hl (k := 4) rfl (nI_1 k) (by decide) rfl (fun ls hl => ?_)
                      refine lv_goto (tgt := 83) hx hb dX4_isFilm_155 (by decide) ?_
                      exact ih83 (k + 1) pp (by first | assumption | omega) (by first | rfl | omega | (rw [cnt_t (by assumption)]; omega) | (rw [cnt_f (by assumption)]; omega)) (by omega) ls (lv_sub hl [1, 2, 3, 4, 0] rfl)
              exact LP83 (nl - 0 + 1) 0 ji41 (by first | assumption | omega) (by first | rfl | omega | (rw [cnt_t (by assumption)]; omega) | (rw [cnt_f (by assumption)]; omega)) (Nat.lt_succ_self _) ls (lv_sub hl [3, 4, 5, 1, 0] rfl)
            · skip
              refine lv_iload_n hx hb dX4_isFilm_77 rfl (lv_at hl 4 rfl) ?_
              refine lv_istore (lv' := [(6, .int (nI ji41)), (5, .int (0 : Int32)), (0, .ref (h 0)), (1, .int (nI a1)), (2, .int (nI 1)), (3, .int (nI ji41)), (4, .int (nI nn41))]) hx hb dX4_isFilm_78 hl (by decide) rfl (fun ls hl => ?_)
              refine lv_iconst (v := nI 0) hx hb dX4_isFilm_80 (by decide) ?_
              refine lv_istore (lv' := [(7, .int (nI 0)), (6, .int (nI ji41)), (5, .int (0 : Int32)), (0, .ref (h 0)), (1, .int (nI a1)), (2, .int (nI 1)), (3, .int (nI ji41)), (4, .int (nI nn41))]) hx hb dX4_isFilm_81 hl (by decide) rfl (fun ls hl => ?_)
              have LP83 : ∀ (n83m : Nat), ∀ (k : Nat) (pp : Nat) (hk : k ≤ nl) (hp : pp = ji41 + cnt (sdb (wn.2 7) (wn.2 8) (wn.2 4 a1)) k), (nl - k < n83m) → ∀ (ls : Array Slot), lv_has ls 8 [(0, .ref (h 0)), (1, .int (nI a1)), (2, .int (nI 1)), (6, .int (nI pp)), (7, .int (nI k))] → W p l e (headSpec wsX4_isFilm ({ frames := 3, cells := 0, slots := 0, locals := 67 })).room s m ([.ref (h 0), .int (nI a1), .int (nI 1), .int (nI ji41), .int (nI nn41)] : List Value).toArray below meth c s.heap [] 0 0 (MQ below (vp_Si (fun r : Int32 => True)) ([.ref (h 0), .int (nI a1), .int (nI 1), .int (nI ji41), .int (nI nn41)] : List Value).toArray s 0 0 (fun _ => False)) (F0 m 83 ls []) := by
                intro n83m
                induction n83m with
                | zero => intro k pp hk hp hmu ls hl; exact absurd hmu (Nat.not_lt_zero _)
                | succ n83m ih83 =>
                  intro k pp hk hp hmu ls hl
                  refine lv_iload hx hb dX4_isFilm_83 (lv_at hl 4 rfl) ?_
                  refine lv_aload_n hx hb dX4_isFilm_85 rfl (lv_at hl 0 rfl) ?_
                  refine va_get (D := gD G) (ci := 4) (v := .ref (h 10)) (C := RX4) (T := TX4) (N := 9) hx hb hts hiX4 hown hK hP 0 (xp_0 _ _ _ _ _ _ _ _ _ _ _ _) rfl 0 (by decide) k10 (fun _ h9 => h9) rfl dX4_isFilm_86 ?_
                  refine va_getN (D := gD G) (ci := 3) (v := .int (wn.1 5)) (C := RX3) (T := TX3) (N := 9) hx hb hts hiX3 hown hK hP 3 (xp_3 _ _ _ _ _ _ _ _ _ _ _ _) rfl 5 (by decide) k85 (fun _ h9 => h9) rfl dX4_isFilm_89 ?_
                  refine topE hnl ?_
                  refine lv_icmp_ge (tgt := 158) hx hb dX4_isFilm_92 (by decide) (fun c92 => ?_) (fun c92 => ?_)
                  · skip
                    have n92 : nl ≤ k := (nI_leI (a := nl) (b := k) (by omega) (by omega)).mp c92
                    refine lv_iconst (v := nI 1) hx hb dX4_isFilm_158 (by decide) ?_
                    exact W.iret (v := nI 1) hx hb hr (fun t ht hW => ⟨nI 1, rfl, by first | rfl | trivial | omega | assumption, ht⟩) (fun _ h9 => by cases h9) dX4_isFilm_159
                  · skip
                    have n92 : ¬ (nl ≤ k) := fun q9 => c92 ((nI_leI (a := nl) (b := k) (by omega) (by omega)).mpr q9)
                    refine lv_aload_n hx hb dX4_isFilm_95 rfl (lv_at hl 0 rfl) ?_
                    refine va_get (D := gD G) (ci := 4) (v := .ref (h 10)) (C := RX4) (T := TX4) (N := 9) hx hb hts hiX4 hown hK hP 0 (xp_0 _ _ _ _ _ _ _ _ _ _ _ _) rfl 0 (by decide) k10 (fun _ h9 => h9) rfl dX4_isFilm_96 ?_
                    refine lv_iload hx hb dX4_isFilm_99 (lv_at hl 4 rfl) ?_
                    refine lv_aload_n hx hb dX4_isFilm_101 rfl (lv_at hl 0 rfl) ?_
                    refine va_get (D := gD G) (ci := 4) (v := .ref (h 10)) (C := RX4) (T := TX4) (N := 9) hx hb hts hiX4 hown hK hP 0 (xp_0 _ _ _ _ _ _ _ _ _ _ _ _) rfl 0 (by decide) k10 (fun _ h9 => h9) rfl dX4_isFilm_102 ?_
                    refine va_getN (D := gD G) (ci := 3) (v := .ref (h 14)) (C := RX3) (T := TX3) (N := 9) hx hb hts hiX3 hown hK hP 3 (xp_3 _ _ _ _ _ _ _ _ _ _ _ _) rfl 4 (by decide) k115 (fun _ h9 => h9) rfl dX4_isFilm_105 ?_
                    refine lv_iload_n hx hb dX4_isFilm_108 rfl (lv_at hl 1 rfl) ?_
                    refine ialdN (f := wn.2 4) (n := 24) (k := a1) hx hb hK hP 7 (xp_7 _ _ _ _ _ _ _ _ _ _ _ _) rfl (by omega) dX4_isFilm_109 ?_
                    refine cRi (w := wv G (fun k => h (10 + k)) wn) (As := [.int (nI k), .int ((wn.2 4) a1)]) (rest := []) ⟨hx, hb, hml, hown, hts⟩ (mt_X3_stands l G (fun k => h (10 + k)) wn k ((wn.2 4) a1) (by first | assumption | omega)) (cwV 2 hts gX4_isFilm_X3_stands rfl rfl rfl (by decide +kernel) ⟨Nat.le_of_ble_eq_true rfl, Nat.le_of_ble_eq_true rfl⟩) hK hN (hP.sub [3, 4, 5, 6, 7, 8, 9, 10] (xf_now _ _ _ _ _ _ _ _ _ _ _ _)) 0 3 rfl rfl rfl hl.1 rfl (Nat.le_of_ble_eq_true rfl) ⟨Nat.zero_le _, Nat.zero_le _⟩ dX4_isFilm_110 (fun r110 hw110 => ?_)
                    rcases hw110 with ⟨rfl, hy110⟩ | ⟨rfl, hn110⟩
                    · skip
                      refine lv_if_eq (tgt := 152) hx hb dX4_isFilm_113 (by decide) (fun c9 => absurd c9 (by decide)) (fun _ => ?_)
                      have hm113 := cnt_mono (sdb (wn.2 7) (wn.2 8) (wn.2 4 a1)) (a := k + 1) (b := nl) (by omega)
                      rw [cnt_t (by assumption)] at hm113
                      refine lv_aload_n hx hb dX4_isFilm_116 rfl (lv_at hl 0 rfl) ?_
                      refine va_get (D := gD G) (ci := 4) (v := .ref (h 70)) (C := RX4) (T := TX4) (N := 9) hx hb hts hiX4 hown hK hP 0 (xp_0 _ _ _ _ _ _ _ _ _ _ _ _) rfl 5 (by decide) k37 (fun _ h9 => h9) rfl dX4_isFilm_117 ?_
                      refine va_getN (D := gD G) (ci := 2) (v := .ref (h 71)) (C := RX2) (T := TX2) (N := 2) hx hb hts hiX2 hown hK hP 47 (xp_47 _ _ _ _ _ _ _ _ _ _ _ _) rfl 0 (by decide) k229 (fun _ h9 => h9) rfl dX4_isFilm_120 ?_
                      refine lv_iload_n hx hb dX4_isFilm_123 rfl (lv_at hl 2 rfl) ?_
                      refine aaldJ (f := fun i => some (h (70 + (3 + i)))) (n := 4) (k := 1) (b := h 74) hx hb hK hP 48 (xp_48 _ _ _ _ _ _ _ _ _ _ _ _) rfl (by decide) rfl dX4_isFilm_124 ?_
                      refine lv_iload hx hb dX4_isFilm_125 (lv_at hl 3 rfl) ?_
                      refine laldN (f := jj 1) (n := 40) (k := pp) hx hb hK hP 51 (xp_51 _ _ _ _ _ _ _ _ _ _ _ _) rfl (by omega) dX4_isFilm_127 ?_
                      refine lv_ldc2 (v := 255) hx hb hown (hts (.constantLong RX4 243 (255)) (List.mem_of_getElem? (i := 5) rfl)) dX4_isFilm_128 ?_
                      refine lv_land hx hb dX4_isFilm_131 ?_
                      refine lv_aload_n hx hb dX4_isFilm_132 rfl (lv_at hl 0 rfl) ?_
                      refine va_get (D := gD G) (ci := 4) (v := .ref (h 10)) (C := RX4) (T := TX4) (N := 9) hx hb hts hiX4 hown hK hP 0 (xp_0 _ _ _ _ _ _ _ _ _ _ _ _) rfl 0 (by decide) k10 (fun _ h9 => h9) rfl dX4_isFilm_133 ?_
                      refine va_getN (D := gD G) (ci := 3) (v := .ref (h 16)) (C := RX3) (T := TX3) (N := 9) hx hb hts hiX3 hown hK hP 3 (xp_3 _ _ _ _ _ _ _ _ _ _ _ _) rfl 6 (by decide) k136 (fun _ h9 => h9) rfl dX4_isFilm_136 ?_
                      refine lv_iload hx hb dX4_isFilm_139 (lv_at hl 4 rfl) ?_
                      refine ialdN (f := wn.2 6) (n := 120) (k := k) hx hb hK hP 8 (xp_8 _ _ _ _ _ _ _ _ _ _ _ _) rfl (by omega) dX4_isFilm_141 ?_
                      refine lv_i2l (v := ((wn.2 6) k).toInt64) hx hb dX4_isFilm_142 rfl ?_
                      refine W.lcmp hx hb dX4_isFilm_143 ?_
                      refine lv_if_eq (tgt := 149) hx hb dX4_isFilm_144 (by decide) (fun c144 => ?_) (fun c144 => ?_)
                      · skip
                        have n144 : (((jj 1) pp) &&& 255) = (((wn.2 6) k).toInt64) := (lg_cmp_eq _ _).mp c144
                        refine lv_iinc (v := nI (pp + 1)) (lv' := [(6, .int (nI (pp + 1))), (0, .ref (h 0)), (1, .int (nI a1)), (2, .int (nI 1)), (7, .int (nI k))]) hx hb dX4_isFilm_149 hl (k := 3) rfl (nI_1 pp) (by decide) rfl (fun ls hl => ?_)
                        refine lv_iinc (v := nI (k + 1)) (lv' := [(7, .int (nI (k + 1))), (6, .int (nI (pp + 1))), (0, .ref (h 0)), (1, .int (nI a1)), (2, .int (nI 1))]) hx hb dX4_isFilm_152 hl (k := 4) rfl (nI_1 k) (by decide) rfl (fun ls hl => ?_)
                        refine lv_goto (tgt := 83) hx hb dX4_isFilm_155 (by decide) ?_
                        exact ih83 (k + 1) (pp + 1) (by first | assumption | omega) (by first | rfl | omega | (rw [cnt_t (by assumption)]; omega) | (rw [cnt_f (by assumption)]; omega)) (by omega) ls (lv_sub hl [2, 3, 4, 1, 0] rfl)
                      · skip
                        have n144 : ¬ ((((jj 1) pp) &&& 255) = (((wn.2 6) k).toInt64)) := fun q9 => c144 ((lg_cmp_eq _ _).mpr q9)
                        refine lv_iconst (v := nI 0) hx hb dX4_isFilm_147 (by decide) ?_
                        exact W.iret (v := nI 0) hx hb hr (fun t ht hW => ⟨nI 0, rfl, by first | rfl | trivial | omega | assumption, ht⟩) (fun _ h9 => by cases h9) dX4_isFilm_148
                    · skip
                      refine lv_if_eq (tgt := 152) hx hb dX4_isFilm_113 (by decide) (fun _ => ?_) (fun c9 => absurd (by decide) c9)
                      refine lv_iinc (v := nI (k + 1)) (lv' := [(7, .int (nI (k + 1))), (0, .ref (h 0)), (1, .int (nI a1)), (2, .int (nI 1)), (6, .int (nI pp))]) hx hb dX4_isFilm_152 hl (k := 4) rfl (nI_1 k) (by decide) rfl (fun ls hl => ?_)
                      refine lv_goto (tgt := 83) hx hb dX4_isFilm_155 (by decide) ?_
                      exact ih83 (k + 1) pp (by first | assumption | omega) (by first | rfl | omega | (rw [cnt_t (by assumption)]; omega) | (rw [cnt_f (by assumption)]; omega)) (by omega) ls (lv_sub hl [1, 2, 3, 4, 0] rfl)
              exact LP83 (nl - 0 + 1) 0 ji41 (by first | assumption | omega) (by first | rfl | omega | (rw [cnt_t (by assumption)]; omega) | (rw [cnt_f (by assumption)]; omega)) (Nat.lt_succ_self _) ls (lv_sub hl [3, 4, 5, 1, 0] rfl)
            · skip
              refine lv_iload_n hx hb dX4_isFilm_77 rfl (lv_at hl 4 rfl) ?_
              refine lv_istore (lv' := [(6, .int (nI ji41)), (5, .int (0 : Int32)), (0, .ref (h 0)), (1, .int (nI a1)), (2, .int (nI 2)), (3, .int (nI ji41)), (4, .int (nI nn41))]) hx hb dX4_isFilm_78 hl (by decide) rfl (fun ls hl => ?_)
              refine lv_iconst (v := nI 0) hx hb dX4_isFilm_80 (by decide) ?_
              refine lv_istore (lv' := [(7, .int (nI 0)), (6, .int (nI ji41)), (5, .int (0 : Int32)), (0, .ref (h 0)), (1, .int (nI a1)), (2, .int (nI 2)), (3, .int (nI ji41)), (4, .int (nI nn41))]) hx hb dX4_isFilm_81 hl (by decide) rfl (fun ls hl => ?_)
              have LP83 : ∀ (n83m : Nat), ∀ (k : Nat) (pp : Nat) (hk : k ≤ nl) (hp : pp = ji41 + cnt (sdb (wn.2 7) (wn.2 8) (wn.2 4 a1)) k), (nl - k < n83m) → ∀ (ls : Array Slot), lv_has ls 8 [(0, .ref (h 0)), (1, .int (nI a1)), (2, .int (nI 2)), (6, .int (nI pp)), (7, .int (nI k))] → W p l e (headSpec wsX4_isFilm ({ frames := 3, cells := 0, slots := 0, locals := 67 })).room s m ([.ref (h 0), .int (nI a1), .int (nI 2), .int (nI ji41), .int (nI nn41)] : List Value).toArray below meth c s.heap [] 0 0 (MQ below (vp_Si (fun r : Int32 => True)) ([.ref (h 0), .int (nI a1), .int (nI 2), .int (nI ji41), .int (nI nn41)] : List Value).toArray s 0 0 (fun _ => False)) (F0 m 83 ls []) := by
                intro n83m
                induction n83m with
                | zero => intro k pp hk hp hmu ls hl; exact absurd hmu (Nat.not_lt_zero _)
                | succ n83m ih83 =>
                  intro k pp hk hp hmu ls hl
                  refine lv_iload hx hb dX4_isFilm_83 (lv_at hl 4 rfl) ?_
                  refine lv_aload_n hx hb dX4_isFilm_85 rfl (lv_at hl 0 rfl) ?_
                  refine va_get (D := gD G) (ci := 4) (v := .ref (h 10)) (C := RX4) (T := TX4) (N := 9) hx hb hts hiX4 hown hK hP 0 (xp_0 _ _ _ _ _ _ _ _ _ _ _ _) rfl 0 (by decide) k10 (fun _ h9 => h9) rfl dX4_isFilm_86 ?_
                  refine va_getN (D := gD G) (ci := 3) (v := .int (wn.1 5)) (C := RX3) (T := TX3) (N := 9) hx hb hts hiX3 hown hK hP 3 (xp_3 _ _ _ _ _ _ _ _ _ _ _ _) rfl 5 (by decide) k85 (fun _ h9 => h9) rfl dX4_isFilm_89 ?_
                  refine topE hnl ?_
                  refine lv_icmp_ge (tgt := 158) hx hb dX4_isFilm_92 (by decide) (fun c92 => ?_) (fun c92 => ?_)
                  · skip
                    have n92 : nl ≤ k := (nI_leI (a := nl) (b := k) (by omega) (by omega)).mp c92
                    refine lv_iconst (v := nI 1) hx hb dX4_isFilm_158 (by decide) ?_
                    exact W.iret (v := nI 1) hx hb hr (fun t ht hW => ⟨nI 1, rfl, by first | rfl | trivial | omega | assumption, ht⟩) (fun _ h9 => by cases h9) dX4_isFilm_159
                  · skip
                    have n92 : ¬ (nl ≤ k) := fun q9 => c92 ((nI_leI (a := nl) (b := k) (by omega) (by omega)).mpr q9)
                    refine lv_aload_n hx hb dX4_isFilm_95 rfl (lv_at hl 0 rfl) ?_
                    refine va_get (D := gD G) (ci := 4) (v := .ref (h 10)) (C := RX4) (T := TX4) (N := 9) hx hb hts hiX4 hown hK hP 0 (xp_0 _ _ _ _ _ _ _ _ _ _ _ _) rfl 0 (by decide) k10 (fun _ h9 => h9) rfl dX4_isFilm_96 ?_
                    refine lv_iload hx hb dX4_isFilm_99 (lv_at hl 4 rfl) ?_
                    refine lv_aload_n hx hb dX4_isFilm_101 rfl (lv_at hl 0 rfl) ?_
                    refine va_get (D := gD G) (ci := 4) (v := .ref (h 10)) (C := RX4) (T := TX4) (N := 9) hx hb hts hiX4 hown hK hP 0 (xp_0 _ _ _ _ _ _ _ _ _ _ _ _) rfl 0 (by decide) k10 (fun _ h9 => h9) rfl dX4_isFilm_102 ?_
                    refine va_getN (D := gD G) (ci := 3) (v := .ref (h 14)) (C := RX3) (T := TX3) (N := 9) hx hb hts hiX3 hown hK hP 3 (xp_3 _ _ _ _ _ _ _ _ _ _ _ _) rfl 4 (by decide) k115 (fun _ h9 => h9) rfl dX4_isFilm_105 ?_
                    refine lv_iload_n hx hb dX4_isFilm_108 rfl (lv_at hl 1 rfl) ?_
                    refine ialdN (f := wn.2 4) (n := 24) (k := a1) hx hb hK hP 7 (xp_7 _ _ _ _ _ _ _ _ _ _ _ _) rfl (by omega) dX4_isFilm_109 ?_
                    refine cRi (w := wv G (fun k => h (10 + k)) wn) (As := [.int (nI k), .int ((wn.2 4) a1)]) (rest := []) ⟨hx, hb, hml, hown, hts⟩ (mt_X3_stands l G (fun k => h (10 + k)) wn k ((wn.2 4) a1) (by first | assumption | omega)) (cwV 2 hts gX4_isFilm_X3_stands rfl rfl rfl (by decide +kernel) ⟨Nat.le_of_ble_eq_true rfl, Nat.le_of_ble_eq_true rfl⟩) hK hN (hP.sub [3, 4, 5, 6, 7, 8, 9, 10] (xf_now _ _ _ _ _ _ _ _ _ _ _ _)) 0 3 rfl rfl rfl hl.1 rfl (Nat.le_of_ble_eq_true rfl) ⟨Nat.zero_le _, Nat.zero_le _⟩ dX4_isFilm_110 (fun r110 hw110 => ?_)
                    rcases hw110 with ⟨rfl, hy110⟩ | ⟨rfl, hn110⟩
                    · skip
                      refine lv_if_eq (tgt := 152) hx hb dX4_isFilm_113 (by decide) (fun c9 => absurd c9 (by decide)) (fun _ => ?_)
                      have hm113 := cnt_mono (sdb (wn.2 7) (wn.2 8) (wn.2 4 a1)) (a := k + 1) (b := nl) (by omega)
                      rw [cnt_t (by assumption)] at hm113
                      refine lv_aload_n hx hb dX4_isFilm_116 rfl (lv_at hl 0 rfl) ?_
                      refine va_get (D := gD G) (ci := 4) (v := .ref (h 70)) (C := RX4) (T := TX4) (N := 9) hx hb hts hiX4 hown hK hP 0 (xp_0 _ _ _ _ _ _ _ _ _ _ _ _) rfl 5 (by decide) k37 (fun _ h9 => h9) rfl dX4_isFilm_117 ?_
                      refine va_getN (D := gD G) (ci := 2) (v := .ref (h 71)) (C := RX2) (T := TX2) (N := 2) hx hb hts hiX2 hown hK hP 47 (xp_47 _ _ _ _ _ _ _ _ _ _ _ _) rfl 0 (by decide) k229 (fun _ h9 => h9) rfl dX4_isFilm_120 ?_
                      refine lv_iload_n hx hb dX4_isFilm_123 rfl (lv_at hl 2 rfl) ?_
                      refine aaldJ (f := fun i => some (h (70 + (3 + i)))) (n := 4) (k := 2) (b := h 75) hx hb hK hP 48 (xp_48 _ _ _ _ _ _ _ _ _ _ _ _) rfl (by decide) rfl dX4_isFilm_124 ?_
                      refine lv_iload hx hb dX4_isFilm_125 (lv_at hl 3 rfl) ?_
                      refine laldN (f := jj 2) (n := 40) (k := pp) hx hb hK hP 52 (xp_52 _ _ _ _ _ _ _ _ _ _ _ _) rfl (by omega) dX4_isFilm_127 ?_
                      refine lv_ldc2 (v := 255) hx hb hown (hts (.constantLong RX4 243 (255)) (List.mem_of_getElem? (i := 5) rfl)) dX4_isFilm_128 ?_
                      refine lv_land hx hb dX4_isFilm_131 ?_
                      refine lv_aload_n hx hb dX4_isFilm_132 rfl (lv_at hl 0 rfl) ?_
                      refine va_get (D := gD G) (ci := 4) (v := .ref (h 10)) (C := RX4) (T := TX4) (N := 9) hx hb hts hiX4 hown hK hP 0 (xp_0 _ _ _ _ _ _ _ _ _ _ _ _) rfl 0 (by decide) k10 (fun _ h9 => h9) rfl dX4_isFilm_133 ?_
                      refine va_getN (D := gD G) (ci := 3) (v := .ref (h 16)) (C := RX3) (T := TX3) (N := 9) hx hb hts hiX3 hown hK hP 3 (xp_3 _ _ _ _ _ _ _ _ _ _ _ _) rfl 6 (by decide) k136 (fun _ h9 => h9) rfl dX4_isFilm_136 ?_
                      refine lv_iload hx hb dX4_isFilm_139 (lv_at hl 4 rfl) ?_
                      refine ialdN (f := wn.2 6) (n := 120) (k := k) hx hb hK hP 8 (xp_8 _ _ _ _ _ _ _ _ _ _ _ _) rfl (by omega) dX4_isFilm_141 ?_
                      refine lv_i2l (v := ((wn.2 6) k).toInt64) hx hb dX4_isFilm_142 rfl ?_
                      refine W.lcmp hx hb dX4_isFilm_143 ?_
                      refine lv_if_eq (tgt := 149) hx hb dX4_isFilm_144 (by decide) (fun c144 => ?_) (fun c144 => ?_)
                      · skip
                        have n144 : (((jj 2) pp) &&& 255) = (((wn.2 6) k).toInt64) := (lg_cmp_eq _ _).mp c144
                        refine lv_iinc (v := nI (pp + 1)) (lv' := [(6, .int (nI (pp + 1))), (0, .ref (h 0)), (1, .int (nI a1)), (2, .int (nI 2)), (7, .int (nI k))]) hx hb dX4_isFilm_149 hl (k := 3) rfl (nI_1 pp) (by decide) rfl (fun ls hl => ?_)
                        refine lv_iinc (v := nI (k + 1)) (lv' := [(7, .int (nI (k + 1))), (6, .int (nI (pp + 1))), (0, .ref (h 0)), (1, .int (nI a1)), (2, .int (nI 2))]) hx hb dX4_isFilm_152 hl (k := 4) rfl (nI_1 k) (by decide) rfl (fun ls hl => ?_)
                        refine lv_goto (tgt := 83) hx hb dX4_isFilm_155 (by decide) ?_
                        exact ih83 (k + 1) (pp + 1) (by first | assumption | omega) (by first | rfl | omega | (rw [cnt_t (by assumption)]; omega) | (rw [cnt_f (by assumption)]; omega)) (by omega) ls (lv_sub hl [2, 3, 4, 1, 0] rfl)
                      · skip
                        have n144 : ¬ ((((jj 2) pp) &&& 255) = (((wn.2 6) k).toInt64)) := fun q9 => c144 ((lg_cmp_eq _ _).mpr q9)
                        refine lv_iconst (v := nI 0) hx hb dX4_isFilm_147 (by decide) ?_
                        exact W.iret (v := nI 0) hx hb hr (fun t ht hW => ⟨nI 0, rfl, by first | rfl | trivial | omega | assumption, ht⟩) (fun _ h9 => by cases h9) dX4_isFilm_148
                    · skip
                      refine lv_if_eq (tgt := 152) hx hb dX4_isFilm_113 (by decide) (fun _ => ?_) (fun c9 => absurd (by decide) c9)
                      refine lv_iinc (v := nI (k + 1)) (lv' := [(7, .int (nI (k + 1))), (0, .ref (h 0)), (1, .int (nI a1)), (2, .int (nI 2)), (6, .int (nI pp))]) hx hb dX4_isFilm_152 hl (k := 4) rfl (nI_1 k) (by decide) rfl (fun ls hl => ?_)
                      refine lv_goto (tgt := 83) hx hb dX4_isFilm_155 (by decide) ?_
                      exact ih83 (k + 1) pp (by first | assumption | omega) (by first | rfl | omega | (rw [cnt_t (by assumption)]; omega) | (rw [cnt_f (by assumption)]; omega)) (by omega) ls (lv_sub hl [1, 2, 3, 4, 0] rfl)
              exact LP83 (nl - 0 + 1) 0 ji41 (by first | assumption | omega) (by first | rfl | omega | (rw [cnt_t (by assumption)]; omega) | (rw [cnt_f (by assumption)]; omega)) (Nat.lt_succ_self _) ls (lv_sub hl [3, 4, 5, 1, 0] rfl)
            · skip
              refine lv_iload_n hx hb dX4_isFilm_77 rfl (lv_at hl 4 rfl) ?_
              refine lv_istore (lv' := [(6, .int (nI ji41)), (5, .int (0 : Int32)), (0, .ref (h 0)), (1, .int (nI a1)), (2, .int (nI 3)), (3, .int (nI ji41)), (4, .int (nI nn41))]) hx hb dX4_isFilm_78 hl (by decide) rfl (fun ls hl => ?_)
              refine lv_iconst (v := nI 0) hx hb dX4_isFilm_80 (by decide) ?_
              refine lv_istore (lv' := [(7, .int (nI 0)), (6, .int (nI ji41)), (5, .int (0 : Int32)), (0, .ref (h 0)), (1, .int (nI a1)), (2, .int (nI 3)), (3, .int (nI ji41)), (4, .int (nI nn41))]) hx hb dX4_isFilm_81 hl (by decide) rfl (fun ls hl => ?_)
              have LP83 : ∀ (n83m : Nat), ∀ (k : Nat) (pp : Nat) (hk : k ≤ nl) (hp : pp = ji41 + cnt (sdb (wn.2 7) (wn.2 8) (wn.2 4 a1)) k), (nl - k < n83m) → ∀ (ls : Array Slot), lv_has ls 8 [(0, .ref (h 0)), (1, .int (nI a1)), (2, .int (nI 3)), (6, .int (nI pp)), (7, .int (nI k))] → W p l e (headSpec wsX4_isFilm ({ frames := 3, cells := 0, slots := 0, locals := 67 })).room s m ([.ref (h 0), .int (nI a1), .int (nI 3), .int (nI ji41), .int (nI nn41)] : List Value).toArray below meth c s.heap [] 0 0 (MQ below (vp_Si (fun r : Int32 => True)) ([.ref (h 0), .int (nI a1), .int (nI 3), .int (nI ji41), .int (nI nn41)] : List Value).toArray s 0 0 (fun _ => False)) (F0 m 83 ls []) := by
                intro n83m
                induction n83m with
                | zero => intro k pp hk hp hmu ls hl; exact absurd hmu (Nat.not_lt_zero _)
                | succ n83m ih83 =>
                  intro k pp hk hp hmu ls hl
                  refine lv_iload hx hb dX4_isFilm_83 (lv_at hl 4 rfl) ?_
                  refine lv_aload_n hx hb dX4_isFilm_85 rfl (lv_at hl 0 rfl) ?_
                  refine va_get (D := gD G) (ci := 4) (v := .ref (h 10)) (C := RX4) (T := TX4) (N := 9) hx hb hts hiX4 hown hK hP 0 (xp_0 _ _ _ _ _ _ _ _ _ _ _ _) rfl 0 (by decide) k10 (fun _ h9 => h9) rfl dX4_isFilm_86 ?_
                  refine va_getN (D := gD G) (ci := 3) (v := .int (wn.1 5)) (C := RX3) (T := TX3) (N := 9) hx hb hts hiX3 hown hK hP 3 (xp_3 _ _ _ _ _ _ _ _ _ _ _ _) rfl 5 (by decide) k85 (fun _ h9 => h9) rfl dX4_isFilm_89 ?_
                  refine topE hnl ?_
                  refine lv_icmp_ge (tgt := 158) hx hb dX4_isFilm_92 (by decide) (fun c92 => ?_) (fun c92 => ?_)
                  · skip
                    have n92 : nl ≤ k := (nI_leI (a := nl) (b := k) (by omega) (by omega)).mp c92
                    refine lv_iconst (v := nI 1) hx hb dX4_isFilm_158 (by decide) ?_
                    exact W.iret (v := nI 1) hx hb hr (fun t ht hW => ⟨nI 1, rfl, by first | rfl | trivial | omega | assumption, ht⟩) (fun _ h9 => by cases h9) dX4_isFilm_159
                  · skip
                    have n92 : ¬ (nl ≤ k) := fun q9 => c92 ((nI_leI (a := nl) (b := k) (by omega) (by omega)).mpr q9)
                    refine lv_aload_n hx hb dX4_isFilm_95 rfl (lv_at hl 0 rfl) ?_
                    refine va_get (D := gD G) (ci := 4) (v := .ref (h 10)) (C := RX4) (T := TX4) (N := 9) hx hb hts hiX4 hown hK hP 0 (xp_0 _ _ _ _ _ _ _ _ _ _ _ _) rfl 0 (by decide) k10 (fun _ h9 => h9) rfl dX4_isFilm_96 ?_
                    refine lv_iload hx hb dX4_isFilm_99 (lv_at hl 4 rfl) ?_
                    refine lv_aload_n hx hb dX4_isFilm_101 rfl (lv_at hl 0 rfl) ?_
                    refine va_get (D := gD G) (ci := 4) (v := .ref (h 10)) (C := RX4) (T := TX4) (N := 9) hx hb hts hiX4 hown hK hP 0 (xp_0 _ _ _ _ _ _ _ _ _ _ _ _) rfl 0 (by decide) k10 (fun _ h9 => h9) rfl dX4_isFilm_102 ?_
                    refine va_getN (D := gD G) (ci := 3) (v := .ref (h 14)) (C := RX3) (T := TX3) (N := 9) hx hb hts hiX3 hown hK hP 3 (xp_3 _ _ _ _ _ _ _ _ _ _ _ _) rfl 4 (by decide) k115 (fun _ h9 => h9) rfl dX4_isFilm_105 ?_
                    refine lv_iload_n hx hb dX4_isFilm_108 rfl (lv_at hl 1 rfl) ?_
                    refine ialdN (f := wn.2 4) (n := 24) (k := a1) hx hb hK hP 7 (xp_7 _ _ _ _ _ _ _ _ _ _ _ _) rfl (by omega) dX4_isFilm_109 ?_
                    refine cRi (w := wv G (fun k => h (10 + k)) wn) (As := [.int (nI k), .int ((wn.2 4) a1)]) (rest := []) ⟨hx, hb, hml, hown, hts⟩ (mt_X3_stands l G (fun k => h (10 + k)) wn k ((wn.2 4) a1) (by first | assumption | omega)) (cwV 2 hts gX4_isFilm_X3_stands rfl rfl rfl (by decide +kernel) ⟨Nat.le_of_ble_eq_true rfl, Nat.le_of_ble_eq_true rfl⟩) hK hN (hP.sub [3, 4, 5, 6, 7, 8, 9, 10] (xf_now _ _ _ _ _ _ _ _ _ _ _ _)) 0 3 rfl rfl rfl hl.1 rfl (Nat.le_of_ble_eq_true rfl) ⟨Nat.zero_le _, Nat.zero_le _⟩ dX4_isFilm_110 (fun r110 hw110 => ?_)
                    rcases hw110 with ⟨rfl, hy110⟩ | ⟨rfl, hn110⟩
                    · skip
                      refine lv_if_eq (tgt := 152) hx hb dX4_isFilm_113 (by decide) (fun c9 => absurd c9 (by decide)) (fun _ => ?_)
                      have hm113 := cnt_mono (sdb (wn.2 7) (wn.2 8) (wn.2 4 a1)) (a := k + 1) (b := nl) (by omega)
                      rw [cnt_t (by assumption)] at hm113
                      refine lv_aload_n hx hb dX4_isFilm_116 rfl (lv_at hl 0 rfl) ?_
                      refine va_get (D := gD G) (ci := 4) (v := .ref (h 70)) (C := RX4) (T := TX4) (N := 9) hx hb hts hiX4 hown hK hP 0 (xp_0 _ _ _ _ _ _ _ _ _ _ _ _) rfl 5 (by decide) k37 (fun _ h9 => h9) rfl dX4_isFilm_117 ?_
                      refine va_getN (D := gD G) (ci := 2) (v := .ref (h 71)) (C := RX2) (T := TX2) (N := 2) hx hb hts hiX2 hown hK hP 47 (xp_47 _ _ _ _ _ _ _ _ _ _ _ _) rfl 0 (by decide) k229 (fun _ h9 => h9) rfl dX4_isFilm_120 ?_
                      refine lv_iload_n hx hb dX4_isFilm_123 rfl (lv_at hl 2 rfl) ?_
                      refine aaldJ (f := fun i => some (h (70 + (3 + i)))) (n := 4) (k := 3) (b := h 76) hx hb hK hP 48 (xp_48 _ _ _ _ _ _ _ _ _ _ _ _) rfl (by decide) rfl dX4_isFilm_124 ?_
                      refine lv_iload hx hb dX4_isFilm_125 (lv_at hl 3 rfl) ?_
                      refine laldN (f := jj 3) (n := 40) (k := pp) hx hb hK hP 53 (xp_53 _ _ _ _ _ _ _ _ _ _ _ _) rfl (by omega) dX4_isFilm_127 ?_
                      refine lv_ldc2 (v := 255) hx hb hown (hts (.constantLong RX4 243 (255)) (List.mem_of_getElem? (i := 5) rfl)) dX4_isFilm_128 ?_
                      refine lv_land hx hb dX4_isFilm_131 ?_
                      refine lv_aload_n hx hb dX4_isFilm_132 rfl (lv_at hl 0 rfl) ?_
                      refine va_get (D := gD G) (ci := 4) (v := .ref (h 10)) (C := RX4) (T := TX4) (N := 9) hx hb hts hiX4 hown hK hP 0 (xp_0 _ _ _ _ _ _ _ _ _ _ _ _) rfl 0 (by decide) k10 (fun _ h9 => h9) rfl dX4_isFilm_133 ?_
                      refine va_getN (D := gD G) (ci := 3) (v := .ref (h 16)) (C := RX3) (T := TX3) (N := 9) hx hb hts hiX3 hown hK hP 3 (xp_3 _ _ _ _ _ _ _ _ _ _ _ _) rfl 6 (by decide) k136 (fun _ h9 => h9) rfl dX4_isFilm_136 ?_
                      refine lv_iload hx hb dX4_isFilm_139 (lv_at hl 4 rfl) ?_
                      refine ialdN (f := wn.2 6) (n := 120) (k := k) hx hb hK hP 8 (xp_8 _ _ _ _ _ _ _ _ _ _ _ _) rfl (by omega) dX4_isFilm_141 ?_
                      refine lv_i2l (v := ((wn.2 6) k).toInt64) hx hb dX4_isFilm_142 rfl ?_
                      refine W.lcmp hx hb dX4_isFilm_143 ?_
                      refine lv_if_eq (tgt := 149) hx hb dX4_isFilm_144 (by decide) (fun c144 => ?_) (fun c144 => ?_)
                      · skip
                        have n144 : (((jj 3) pp) &&& 255) = (((wn.2 6) k).toInt64) := (lg_cmp_eq _ _).mp c144
                        refine lv_iinc (v := nI (pp + 1)) (lv' := [(6, .int (nI (pp + 1))), (0, .ref (h 0)), (1, .int (nI a1)), (2, .int (nI 3)), (7, .int (nI k))]) hx hb dX4_isFilm_149 hl (k := 3) rfl (nI_1 pp) (by decide) rfl (fun ls hl => ?_)
                        refine lv_iinc (v := nI (k + 1)) (lv' := [(7, .int (nI (k + 1))), (6, .int (nI (pp + 1))), (0, .ref (h 0)), (1, .int (nI a1)), (2, .int (nI 3))]) hx hb dX4_isFilm_152 hl (k := 4) rfl (nI_1 k) (by decide) rfl (fun ls hl => ?_)
                        refine lv_goto (tgt := 83) hx hb dX4_isFilm_155 (by decide) ?_
                        exact ih83 (k + 1) (pp + 1) (by first | assumption | omega) (by first | rfl | omega | (rw [cnt_t (by assumption)]; omega) | (rw [cnt_f (by assumption)]; omega)) (by omega) ls (lv_sub hl [2, 3, 4, 1, 0] rfl)
                      · skip
                        have n144 : ¬ ((((jj 3) pp) &&& 255) = (((wn.2 6) k).toInt64)) := fun q9 => c144 ((lg_cmp_eq _ _).mpr q9)
                        refine lv_iconst (v := nI 0) hx hb dX4_isFilm_147 (by decide) ?_
                        exact W.iret (v := nI 0) hx hb hr (fun t ht hW => ⟨nI 0, rfl, by first | rfl | trivial | omega | assumption, ht⟩) (fun _ h9 => by cases h9) dX4_isFilm_148
                    · skip
                      refine lv_if_eq (tgt := 152) hx hb dX4_isFilm_113 (by decide) (fun _ => ?_) (fun c9 => absurd (by decide) c9)
                      refine lv_iinc (v := nI (k + 1)) (lv' := [(7, .int (nI (k + 1))), (0, .ref (h 0)), (1, .int (nI a1)), (2, .int (nI 3)), (6, .int (nI pp))]) hx hb dX4_isFilm_152 hl (k := 4) rfl (nI_1 k) (by decide) rfl (fun ls hl => ?_)
                      refine lv_goto (tgt := 83) hx hb dX4_isFilm_155 (by decide) ?_
                      exact ih83 (k + 1) pp (by first | assumption | omega) (by first | rfl | omega | (rw [cnt_t (by assumption)]; omega) | (rw [cnt_f (by assumption)]; omega)) (by omega) ls (lv_sub hl [1, 2, 3, 4, 0] rfl)
              exact LP83 (nl - 0 + 1) 0 ji41 (by first | assumption | omega) (by first | rfl | omega | (rw [cnt_t (by assumption)]; omega) | (rw [cnt_f (by assumption)]; omega)) (Nat.lt_succ_self _) ls (lv_sub hl [3, 4, 5, 1, 0] rfl)
          · skip
            have n72 : ¬ (nn41 = (cnt (sdb (wn.2 7) (wn.2 8) ((wn.2 4) a1)) nl)) := fun q9 => c72 ((nI_eq (a := nn41) (b := cnt (sdb (wn.2 7) (wn.2 8) ((wn.2 4) a1)) nl) (by omega) (by omega)).mpr q9)
            refine lv_iconst (v := nI 0) hx hb dX4_isFilm_75 (by decide) ?_
            exact W.iret (v := nI 0) hx hb hr (fun t ht hW => ⟨nI 0, rfl, by first | rfl | trivial | omega | assumption, ht⟩) (fun _ h9 => by cases h9) dX4_isFilm_76
        · skip
          refine lv_istore (lv' := [(5, .int (-1000000001 : Int32)), (0, .ref (h 0)), (1, .int (nI a1)), (2, .int s1), (3, .int i1), (4, .int n1)]) hx hb dX4_isFilm_44 hl (by decide) rfl (fun ls hl => ?_)
          refine lv_iload hx hb dX4_isFilm_46 (lv_at hl 0 rfl) ?_
          refine lv_if_eq (tgt := 54) hx hb dX4_isFilm_48 (by decide) (fun c9 => absurd c9 (by decide)) (fun _ => ?_)
          refine lv_iload hx hb dX4_isFilm_51 (lv_at hl 0 rfl) ?_
          exact W.iret (v := (-1000000001 : Int32)) hx hb hr (fun t ht hW => ⟨(-1000000001 : Int32), rfl, by first | rfl | trivial | omega | assumption, ht⟩) (fun _ h9 => by cases h9) dX4_isFilm_53
        · skip
          refine lv_istore (lv' := [(5, .int (-1000000011 : Int32)), (0, .ref (h 0)), (1, .int (nI a1)), (2, .int s1), (3, .int i1), (4, .int n1)]) hx hb dX4_isFilm_44 hl (by decide) rfl (fun ls hl => ?_)
          refine lv_iload hx hb dX4_isFilm_46 (lv_at hl 0 rfl) ?_
          refine lv_if_eq (tgt := 54) hx hb dX4_isFilm_48 (by decide) (fun c9 => absurd c9 (by decide)) (fun _ => ?_)
          refine lv_iload hx hb dX4_isFilm_51 (lv_at hl 0 rfl) ?_
          exact W.iret (v := (-1000000011 : Int32)) hx hb hr (fun t ht hW => ⟨(-1000000011 : Int32), rfl, by first | rfl | trivial | omega | assumption, ht⟩) (fun _ h9 => by cases h9) dX4_isFilm_53
        · skip
          refine lv_istore (lv' := [(5, .int (-1000000012 : Int32)), (0, .ref (h 0)), (1, .int (nI a1)), (2, .int s1), (3, .int i1), (4, .int n1)]) hx hb dX4_isFilm_44 hl (by decide) rfl (fun ls hl => ?_)
          refine lv_iload hx hb dX4_isFilm_46 (lv_at hl 0 rfl) ?_
          refine lv_if_eq (tgt := 54) hx hb dX4_isFilm_48 (by decide) (fun c9 => absurd c9 (by decide)) (fun _ => ?_)
          refine lv_iload hx hb dX4_isFilm_51 (lv_at hl 0 rfl) ?_
          exact W.iret (v := (-1000000012 : Int32)) hx hb hr (fun t ht hW => ⟨(-1000000012 : Int32), rfl, by first | rfl | trivial | omega | assumption, ht⟩) (fun _ h9 => by cases h9) dX4_isFilm_53
      · skip
        refine lv_ldc (v := (-1000000002 : Int32)) hx hb hown (hts (.constant RX4 56 (-1000000002)) (List.mem_of_getElem? (i := 4) rfl)) dX4_isFilm_30 ?_
        exact W.iret (v := (-1000000002 : Int32)) hx hb hr (fun t ht hW => ⟨(-1000000002 : Int32), rfl, by first | rfl | trivial | omega | assumption, ht⟩) (fun _ h9 => by cases h9) dX4_isFilm_32
    · skip
      refine lv_if_ne (tgt := 25) hx hb dX4_isFilm_19 (by decide) (fun c9 => absurd (by decide) c9) (fun _ => ?_)
      refine lv_ldc (v := (-1000000001 : Int32)) hx hb hown (hts (.constant RX4 110 (-1000000001)) (List.mem_of_getElem? (i := 3) rfl)) dX4_isFilm_22 ?_
      exact W.iret (v := (-1000000001 : Int32)) hx hb hr (fun t ht hW => ⟨(-1000000001 : Int32), rfl, by first | rfl | trivial | omega | assumption, ht⟩) (fun _ h9 => by cases h9) dX4_isFilm_24
  · skip
    refine lv_if_eq (tgt := 22) hx hb dX4_isFilm_8 (by decide) (fun _ => ?_) (fun c9 => absurd (by decide) c9)
    refine lv_ldc (v := (-1000000001 : Int32)) hx hb hown (hts (.constant RX4 110 (-1000000001)) (List.mem_of_getElem? (i := 3) rfl)) dX4_isFilm_22 ?_
    exact W.iret (v := (-1000000001 : Int32)) hx hb hr (fun t ht hW => ⟨(-1000000001 : Int32), rfl, by first | rfl | trivial | omega | assumption, ht⟩) (fun _ h9 => by cases h9) dX4_isFilm_24
set_option maxHeartbeats 1000000 in
set_option maxRecDepth 100000 in
theorem mt_X4_forgetImages (l : Launch) (G : gG) (h : Nat → Nat) (sz : Nat) (x : oS) (wn : oS) (wa : oS) (w0 : oS) (w1 : oS) (rd : oS) (wr : oS) (z : oS) (jj : Nat → Nat → Int64) (lt : Int64) : Met l yX4_forgetImages wsX4_forgetImages ({ frames := 0, cells := 0, slots := 0, locals := 0 }) (preW G (xw G h x wn wa w0 w1 rd wr z jj lt) sz [.ref (h 0)]) (va_Qv (fun (v : oS × oS × oS × oS × oS × oS × oS × oS × (Nat → Nat → Int64) × Int64) => ∃ f3, v = (oA x 3 f3, wn, wa, w0, w1, rd, wr, z, jj, lt)) (fun v t => PP G (xw G h v.1 v.2.1 v.2.2.1 v.2.2.2.1 v.2.2.2.2.1 v.2.2.2.2.2.1 v.2.2.2.2.2.2.1 v.2.2.2.2.2.2.2.1 v.2.2.2.2.2.2.2.2.1 v.2.2.2.2.2.2.2.2.2) t.heap) (va_A (xw G h x wn wa w0 w1 rd wr z jj lt) sz)) 0 0 (va_A (xw G h x wn wa w0 w1 rd wr z jj lt) sz) := by
  refine Met.ofW (cc := cX4_forgetImages) (maxL := 2) (ret := none) (by decide) rfl ?_
  intro p e s m args below meth c s₁ B hml hv
  obtain ⟨ha, hsz, hP, hK, hN, hD0⟩ := hv
  subst ha
  have hx := B.exec
  have hb := B.bytes
  have hr := B.returns
  have hts := atoms_spec (ws := wsX4_forgetImages) B.pre
  have hown : s.vm.findClass RX4 = some m.cls := findClass_of_methodNamed B.named
  have hlocks := B.notSynchronized
  subst hsz
  have hD := hD0.self (sz := s.heap.size)
  generalize hAe : va_A (xw G h x wn wa w0 w1 rd wr z jj lt) s.heap.size = A at hD ⊢
  have hA : ∀ q : Nat, s.heap.size ≤ q → A q := fun q h => by rw [← hAe]; exact Or.inr h
  clear hAe hD0
  have hS : va_S A s.heap s.heap [] := va_S.rf
  have hiX4 : ∀ w ∈ wsX40, w ∈ wsX4_forgetImages := by decide +kernel
  have k23 := hts (.fieldLink RX4 23 "WovenHistory" "kept" "[Z") (List.mem_of_getElem? (i := 1) rfl)
  have hl := lv_entry ([.ref (h 0)]) (n := 2) (Nat.le_of_ble_eq_true rfl)
  rw [lg_entry_eq]
  generalize (lg_sl ([.ref (h 0)]) ++ List.replicate (2 - (lg_sl ([.ref (h 0)])).length) Slot.unset).toArray = ls at hl ⊢
  have hl : lv_has ls 2 [(0, .ref (h 0))] := hl
  refine lv_iconst (v := nI 0) hx hb dX4_forgetImages_0 (by decide) ?_
  refine lv_istore_n (lv' := [(1, .int (nI 0)), (0, .ref (h 0))]) hx hb dX4_forgetImages_1 rfl hl (by decide) rfl (fun ls hl => ?_)
  have LP2 : ∀ (n2m : Nat), ∀ (k : Nat) (f3 : Nat → Int32) (hk : k ≤ 2), (2 - k < n2m) → ∀ (H : Heap) (locs : List Loc) (ls : Array Slot), PP G (xw G h (oA x 3 f3) wn wa w0 w1 rd wr z jj lt) H → va_D A (xw G h (oA x 3 f3) wn wa w0 w1 rd wr z jj lt) → va_S A s.heap H locs → lv_has ls 2 [(0, .ref (h 0)), (1, .int (nI k))] → W p l e (headSpec wsX4_forgetImages ({ frames := 0, cells := 0, slots := 0, locals := 0 })).room s m ([.ref (h 0)] : List Value).toArray below meth c H locs 0 0 (MQ below (va_Qv (fun (v : oS × oS × oS × oS × oS × oS × oS × oS × (Nat → Nat → Int64) × Int64) => ∃ f3, v = (oA x 3 f3, wn, wa, w0, w1, rd, wr, z, jj, lt)) (fun v t => PP G (xw G h v.1 v.2.1 v.2.2.1 v.2.2.2.1 v.2.2.2.2.1 v.2.2.2.2.2.1 v.2.2.2.2.2.2.1 v.2.2.2.2.2.2.2.1 v.2.2.2.2.2.2.2.2.1 v.2.2.2.2.2.2.2.2.2) t.heap) A) ([.ref (h 0)] : List Value).toArray s 0 0 A) (F0 m 2 ls []) := by
    intro n2m
    induction n2m with
    | zero => intro k f3 hk hmu H locs ls hP hD hS hl; exact absurd hmu (Nat.not_lt_zero _)
    | succ n2m ih2 =>
      intro k f3 hk hmu H locs ls hP hD hS hl
      refine lv_iload_n hx hb dX4_forgetImages_2 rfl (lv_at hl 1 rfl) ?_
      refine lv_iconst (v := nI 2) hx hb dX4_forgetImages_3 (by decide) ?_
      refine lv_icmp_ge (tgt := 20) hx hb dX4_forgetImages_4 (by decide) (fun c4 => ?_) (fun c4 => ?_)
      · skip
        have n4 : 2 ≤ k := (nI_leI (a := 2) (b := k) (by omega) (by omega)).mp c4
        exact W.vret hx hb hr (fun t ht hW => ⟨⟨(oA x 3 f3, wn, wa, w0, w1, rd, wr, z, jj, lt), rfl, ⟨_, rfl⟩, show PP G (xw G h (oA x 3 f3) wn wa w0 w1 rd wr z jj lt) t.heap by rw [ht]; exact hP⟩, hS.F ht⟩) hS.2.2 dX4_forgetImages_20
      · skip
        have n4 : ¬ (2 ≤ k) := fun q9 => c4 ((nI_leI (a := 2) (b := k) (by omega) (by omega)).mpr q9)
        refine lv_aload_n hx hb dX4_forgetImages_7 rfl (lv_at hl 0 rfl) ?_
        refine va_get (D := gD G) (ci := 4) (v := .ref (h 3)) (C := RX4) (T := TX4) (N := 9) hx hb hts hiX4 hown hK hP 0 (xp_0 _ _ _ _ _ _ _ _ _ _ _ _) rfl 3 (by decide) k23 (fun _ h9 => h9) rfl dX4_forgetImages_8 ?_
        refine lv_iload_n hx hb dX4_forgetImages_11 rfl (lv_at hl 1 rfl) ?_
        refine lv_iconst (v := nI 0) hx hb dX4_forgetImages_12 (by decide) ?_
        refine zastN (f := f3) (n := 2) (k := k) hx hb hK hP hD hS 2 (xp_2 _ _ _ _ _ _ _ _ _ _ _ _) rfl (by omega) (Or.inl rfl) dX4_forgetImages_13 (fun H locs hP hD hS => ?_)
        rw [xs_2] at hP hD
        have hP : PP G (xw G h (oA (oA x 3 f3) 3 (upd f3 k (nI 0))) wn wa w0 w1 rd wr z jj lt) H := hP
        have hD : va_D A (xw G h (oA (oA x 3 f3) 3 (upd f3 k (nI 0))) wn wa w0 w1 rd wr z jj lt) := hD
        refine lv_iinc (v := nI (k + 1)) (lv' := [(1, .int (nI (k + 1))), (0, .ref (h 0))]) hx hb dX4_forgetImages_14 hl (k := 1) rfl (nI_1 k) (by decide) rfl (fun ls hl => ?_)
        refine lv_goto (tgt := 2) hx hb dX4_forgetImages_17 (by decide) ?_
        exact ih2 (k + 1) (upd f3 k (nI 0)) (by first | assumption | omega) (by omega) _ _ ls hP hD hS (lv_sub hl [1, 0] rfl)
  exact LP2 (2 - 0 + 1) 0 (x.2 3) (by first | assumption | omega) (Nat.lt_succ_self _) _ _ ls hP hD hS (lv_sub hl [1, 0] rfl)
set_option maxHeartbeats 1000000 in
set_option maxRecDepth 100000 in
theorem mt_X4_feed (l : Launch) (G : gG) (h : Nat → Nat) (sz : Nat) (x : oS) (wn : oS) (wa : oS) (w0 : oS) (w1 : oS) (rd : oS) (wr : oS) (z : oS) (jj : Nat → Nat → Int64) (lt : Int64) (nv : Nat) (nl : Nat) (nva : Nat) (nla : Nat) (nv0 : Nat) (nl0 : Nat) (nv1 : Nat) (nl1 : Nat) (len : Nat) (a : Int32) (hnv : wn.1 0 = nI nv) (hnl : wn.1 5 = nI nl) (hnva : wa.1 0 = nI nva) (hnla : wa.1 5 = nI nla) (hnv0 : w0.1 0 = nI nv0) (hnl0 : w0.1 5 = nI nl0) (hnv1 : w1.1 0 = nI nv1) (hnl1 : w1.1 5 = nI nl1) (hlen : rd.1 1 = nI len) (hnv24 : nv ≤ 24) (hnl120 : nl ≤ 120) (hva24 : nva ≤ 24) (hla120 : nla ≤ 120) (hv024 : nv0 ≤ 24) (hl0120 : nl0 ≤ 120) (hv124 : nv1 ≤ 24) (hl1120 : nl1 ≤ 120) (hl240 : len ≤ 240) (hsz : ∀ j, j < 4 → z.2 1 j = -1 ∨ ∃ q, q ≤ 40 ∧ z.2 1 j = nI q) : Met l yX4_feed wsX4_feed ({ frames := 1, cells := 0, slots := 0, locals := 21 }) (preW G (xw G h x wn wa w0 w1 rd wr z jj lt) sz [.ref (h 0), .int a]) (va_Qi (fun (r : Int32) (v : oS × oS × oS × oS × oS × oS × oS × oS × (Nat → Nat → Int64) × Int64) => (r = -1000000002 ∧ XQ x rd z v ∧ ∀ j, j ≤ 255 → a ≠ nI j) ∨ ((∃ j, j ≤ 255 ∧ a = nI j) ∧ len = 240 ∧ r = -1000000004 ∧ XQ x rd z v) ∨ ((∃ j, j ≤ 255 ∧ a = nI j) ∧ len < 240 ∧ r = nI (len + 1) ∧ XQ x (oI (oA rd 0 (upd (rd.2 0) len a)) 1 (nI (len + 1))) z v)) (fun v t => PP G (xw G h v.1 v.2.1 v.2.2.1 v.2.2.2.1 v.2.2.2.2.1 v.2.2.2.2.2.1 v.2.2.2.2.2.2.1 v.2.2.2.2.2.2.2.1 v.2.2.2.2.2.2.2.2.1 v.2.2.2.2.2.2.2.2.2) t.heap) (va_A (xw G h x wn wa w0 w1 rd wr z jj lt) sz)) 0 0 (va_A (xw G h x wn wa w0 w1 rd wr z jj lt) sz) := by
  refine Met.ofW (cc := cX4_feed) (maxL := 2) (ret := (some .int)) (by decide) rfl ?_
  intro p e s m args below meth c s₁ B hml hv
  obtain ⟨ha, hsz, hP, hK, hN, hD0⟩ := hv
  subst ha
  have hx := B.exec
  have hb := B.bytes
  have hr := B.returns
  have hts := atoms_spec (ws := wsX4_feed) B.pre
  have hown : s.vm.findClass RX4 = some m.cls := findClass_of_methodNamed B.named
  have hlocks := B.notSynchronized
  subst hsz
  have hD := hD0.self (sz := s.heap.size)
  generalize hAe : va_A (xw G h x wn wa w0 w1 rd wr z jj lt) s.heap.size = A at hD ⊢
  have hA : ∀ q : Nat, s.heap.size ≤ q → A q := fun q h => by rw [← hAe]; exact Or.inr h
  clear hAe hD0
  have hS : va_S A s.heap s.heap [] := va_S.rf
  have hiX4 : ∀ w ∈ wsX40, w ∈ wsX4_feed := by decide +kernel
  have k30 := hts (.fieldLink RX4 30 "WovenHistory" "reader" "LWovenHistory$Reader;") (List.mem_of_getElem? (i := 2) rfl)
  have hiX1 : ∀ w ∈ wsX10, w ∈ wsX4_feed := by decide +kernel
  have k61 : (Cond.fieldLinkNest "WovenHistory" 61 "WovenHistory$Reader" "length" "I" "WovenHistory").before _ s = true := va_Nw.use (A := ([.ref (h 0), .int a] : List Value).toArray) rfl (hN.1 ("WovenHistory", 61, "WovenHistory$Reader", "length", "I") (List.mem_of_getElem? (i := 9) rfl))
  have hl := lv_entry ([.ref (h 0), .int a]) (n := 2) (Nat.le_of_ble_eq_true rfl)
  rw [lg_entry_eq]
  generalize (lg_sl ([.ref (h 0), .int a]) ++ List.replicate (2 - (lg_sl ([.ref (h 0), .int a])).length) Slot.unset).toArray = ls at hl ⊢
  have hl : lv_has ls 2 [(0, .ref (h 0)), (1, .int a)] := hl
  refine lv_iload_n hx hb dX4_feed_0 rfl (lv_at hl 1 rfl) ?_
  refine lv_if_lt (tgt := 11) hx hb dX4_feed_1 (by decide) (fun c1 => ?_) (fun c1 => ?_)
  · skip
    refine lv_ldc (v := (-1000000002 : Int32)) hx hb hown (hts (.constant RX4 56 (-1000000002)) (List.mem_of_getElem? (i := 1) rfl)) dX4_feed_11 ?_
    exact W.iret (v := (-1000000002 : Int32)) hx hb hr (fun t ht hW => ⟨⟨(-1000000002 : Int32), (x, wn, wa, w0, w1, rd, wr, z, jj, lt), rfl, Or.inl ⟨rfl, ⟨_, _, _, _, _, _, _, _, _, _, rfl, ⟨nv, nl, hnv, by omega, hnl, by omega⟩, ⟨nva, nla, hnva, by omega, hnla, by omega⟩, ⟨nv0, nl0, hnv0, by omega, hnl0, by omega⟩, ⟨nv1, nl1, hnv1, by omega, hnl1, by omega⟩, rfl, rfl, rfl, rfl⟩, by first | exact le_n1 (by omega) (by assumption) | exact le_n2 (by omega) (by assumption)⟩, show PP G (xw G h x wn wa w0 w1 rd wr z jj lt) t.heap by rw [ht]; exact hP⟩, hS.F ht⟩) hS.2.2 dX4_feed_13
  · skip
    refine lv_iload_n hx hb dX4_feed_4 rfl (lv_at hl 1 rfl) ?_
    refine lv_sipush (v := nI 255) hx hb dX4_feed_5 (by decide) ?_
    refine lv_icmp_le (tgt := 14) hx hb dX4_feed_8 (by decide) (fun c8 => ?_) (fun c8 => ?_)
    · skip
      refine lv_aload_n hx hb dX4_feed_14 rfl (lv_at hl 0 rfl) ?_
      refine va_get (D := gD G) (ci := 4) (v := .ref (h 50)) (C := RX4) (T := TX4) (N := 9) hx hb hts hiX4 hown hK hP 0 (xp_0 _ _ _ _ _ _ _ _ _ _ _ _) rfl 4 (by decide) k30 (fun _ h9 => h9) rfl dX4_feed_15 ?_
      refine lv_iload_n hx hb dX4_feed_18 rfl (lv_at hl 1 rfl) ?_
      refine cWi (As := [.int a]) (rest := []) (S := oS × oS) (wa := xw G h x wn wa w0 w1 rd wr z jj lt) (wc := rv G (fun k => h (50 + k)) rd wr) (w1 := fun v => rv G (fun k => h (50 + k)) v.1 v.2) (wa' := fun v => xw G h x wn wa w0 w1 v.1 v.2 z jj lt) ⟨hx, hb, hml, hown, hts⟩ (mt_X1_addLetter l G (fun k => h (50 + k)) _ rd wr len a (hlen) (by first | assumption | omega)) (cwV 1 hts gX4_feed_X1_addLetter rfl rfl rfl (by decide +kernel) ⟨Nat.le_of_ble_eq_true rfl, Nat.le_of_ble_eq_true rfl⟩) hK hN hP hD hS hA [35, 36, 37, 38, 39, 40, 41, 42, 43, 44, 45, 46] (xc_r _ _ _ _ _ _ _ _ _ _ _ _) (by decide) (xf_r _ _ _ _ _ _ _ _ _ _ _ _) (fun _ => rfl) (fun v => xo_r _ _ _ _ _ _ _ _ _ _ _ _ v) (fun v => xm_r _ _ _ _ _ _ _ _ _ _ _ _ v) 0 1 rfl rfl rfl hl.1 rfl (Nat.le_of_ble_eq_true rfl) ⟨Nat.zero_le _, Nat.zero_le _⟩ dX4_feed_19 (fun r19 u19 H locs hw19 hP hD hS => ?_)
      rcases hw19 with ⟨hl19, rfl, rfl⟩ | ⟨hl19, rfl, rfl⟩
      · skip
        have hP : PP G (xw G h x wn wa w0 w1 rd wr z jj lt) H := hP
        have hD : va_D A (xw G h x wn wa w0 w1 rd wr z jj lt) := hD
        refine lv_if_eq (tgt := 35) hx hb dX4_feed_22 (by decide) (fun _ => ?_) (fun c9 => absurd (by decide) c9)
        refine lv_ldc (v := (-1000000004 : Int32)) hx hb hown (hts (.constant RX4 64 (-1000000004)) (List.mem_of_getElem? (i := 3) rfl)) dX4_feed_35 ?_
        exact W.iret (v := (-1000000004 : Int32)) hx hb hr (fun t ht hW => ⟨⟨(-1000000004 : Int32), (x, wn, wa, w0, w1, rd, wr, z, jj, lt), rfl, Or.inr (Or.inl ⟨le_y (by omega) (by assumption) (by assumption), by assumption, rfl, ⟨_, _, _, _, _, _, _, _, _, _, rfl, ⟨nv, nl, hnv, by omega, hnl, by omega⟩, ⟨nva, nla, hnva, by omega, hnla, by omega⟩, ⟨nv0, nl0, hnv0, by omega, hnl0, by omega⟩, ⟨nv1, nl1, hnv1, by omega, hnl1, by omega⟩, rfl, rfl, rfl, rfl⟩⟩), show PP G (xw G h x wn wa w0 w1 rd wr z jj lt) t.heap by rw [ht]; exact hP⟩, hS.F ht⟩) hS.2.2 dX4_feed_37
      · skip
        have hP : PP G (xw G h x wn wa w0 w1 (oI (oA rd 0 (upd (rd.2 0) len a)) 1 (nI (len + 1))) wr z jj lt) H := hP
        have hD : va_D A (xw G h x wn wa w0 w1 (oI (oA rd 0 (upd (rd.2 0) len a)) 1 (nI (len + 1))) wr z jj lt) := hD
        refine lv_if_eq (tgt := 35) hx hb dX4_feed_22 (by decide) (fun c9 => absurd c9 (by decide)) (fun _ => ?_)
        refine lv_aload_n hx hb dX4_feed_25 rfl (lv_at hl 0 rfl) ?_
        refine va_get (D := gD G) (ci := 4) (v := .ref (h 50)) (C := RX4) (T := TX4) (N := 9) hx hb hts hiX4 hown hK hP 0 (xp_0 _ _ _ _ _ _ _ _ _ _ _ _) rfl 4 (by decide) k30 (fun _ h9 => h9) rfl dX4_feed_26 ?_
        refine va_getN (D := gD G) (ci := 1) (v := .int (nI (len + 1))) (C := RX1) (T := TX1) (N := 10) hx hb hts hiX1 hown hK hP 35 (xp_35 _ _ _ _ _ _ _ _ _ _ _ _) rfl 1 (by decide) k61 (fun _ h9 => h9) rfl dX4_feed_29 ?_
        refine lv_goto (tgt := 37) hx hb dX4_feed_32 (by decide) ?_
        exact W.iret (v := nI (len + 1)) hx hb hr (fun t ht hW => ⟨⟨nI (len + 1), (x, wn, wa, w0, w1, oI (oA rd 0 (upd (rd.2 0) len a)) 1 (nI (len + 1)), wr, z, jj, lt), rfl, Or.inr (Or.inr ⟨le_y (by omega) (by assumption) (by assumption), by assumption, rfl, ⟨_, _, _, _, _, _, _, _, _, _, rfl, ⟨nv, nl, hnv, by omega, hnl, by omega⟩, ⟨nva, nla, hnva, by omega, hnla, by omega⟩, ⟨nv0, nl0, hnv0, by omega, hnl0, by omega⟩, ⟨nv1, nl1, hnv1, by omega, hnl1, by omega⟩, rfl, rfl, rfl, rfl⟩⟩), show PP G (xw G h x wn wa w0 w1 (oI (oA rd 0 (upd (rd.2 0) len a)) 1 (nI (len + 1))) wr z jj lt) t.heap by rw [ht]; exact hP⟩, hS.F ht⟩) hS.2.2 dX4_feed_37
    · skip
      refine lv_ldc (v := (-1000000002 : Int32)) hx hb hown (hts (.constant RX4 56 (-1000000002)) (List.mem_of_getElem? (i := 1) rfl)) dX4_feed_11 ?_
      exact W.iret (v := (-1000000002 : Int32)) hx hb hr (fun t ht hW => ⟨⟨(-1000000002 : Int32), (x, wn, wa, w0, w1, rd, wr, z, jj, lt), rfl, Or.inl ⟨rfl, ⟨_, _, _, _, _, _, _, _, _, _, rfl, ⟨nv, nl, hnv, by omega, hnl, by omega⟩, ⟨nva, nla, hnva, by omega, hnla, by omega⟩, ⟨nv0, nl0, hnv0, by omega, hnl0, by omega⟩, ⟨nv1, nl1, hnv1, by omega, hnl1, by omega⟩, rfl, rfl, rfl, rfl⟩, by first | exact le_n1 (by omega) (by assumption) | exact le_n2 (by omega) (by assumption)⟩, show PP G (xw G h x wn wa w0 w1 rd wr z jj lt) t.heap by rw [ht]; exact hP⟩, hS.F ht⟩) hS.2.2 dX4_feed_13
def XW (z : oS) (v : oS × oS × oS × oS × oS × oS × oS × oS × (Nat → Nat → Int64) × Int64) : Prop := ∃ x wn wa w0 w1 rd' wr z' jj lt, v = (x, wn, wa, w0, w1, rd', wr, z', jj, lt) ∧ WI wn ∧ WI wa ∧ WI w0 ∧ WI w1 ∧ rd'.1 1 = nI 0 ∧ z'.2 1 = z.2 1

set_option maxHeartbeats 1000000 in
set_option maxRecDepth 100000 in
theorem mt_X4_weave (l : Launch) (G : gG) (h : Nat → Nat) (sz : Nat) (x : oS) (wn : oS) (wa : oS) (w0 : oS) (w1 : oS) (rd : oS) (wr : oS) (z : oS) (jj : Nat → Nat → Int64) (lt : Int64) (nv : Nat) (nl : Nat) (nva : Nat) (nla : Nat) (nv0 : Nat) (nl0 : Nat) (nv1 : Nat) (nl1 : Nat) (len : Nat) (tx : Nat → Int32) (hnv : wn.1 0 = nI nv) (hnl : wn.1 5 = nI nl) (hnva : wa.1 0 = nI nva) (hnla : wa.1 5 = nI nla) (hnv0 : w0.1 0 = nI nv0) (hnl0 : w0.1 5 = nI nl0) (hnv1 : w1.1 0 = nI nv1) (hnl1 : w1.1 5 = nI nl1) (hlen : rd.1 1 = nI len) (hnv24 : nv ≤ 24) (hnl120 : nl ≤ 120) (hva24 : nva ≤ 24) (hla120 : nla ≤ 120) (hv024 : nv0 ≤ 24) (hl0120 : nl0 ≤ 120) (hv124 : nv1 ≤ 24) (hl1120 : nl1 ≤ 120) (hl240 : len ≤ 240) (hsz : ∀ j, j < 4 → z.2 1 j = -1 ∨ ∃ q, q ≤ 40 ∧ z.2 1 j = nI q) (htx : rwE (rd.2 0) tx len) (hlet : ∀ i, i < len → ∃ j, j ≤ 255 ∧ tx i = nI j) : Met l yX4_weave wsX4_weave ({ frames := 6, cells := 0, slots := 0, locals := 138 }) (preW G (xw G h x wn wa w0 w1 rd wr z jj lt) sz [.ref (h 0)]) (va_Qi (fun (r : Int32) (v : oS × oS × oS × oS × oS × oS × oS × oS × (Nat → Nat → Int64) × Int64) => ∃ res, pEv tx len true s0 res ∧ XW z v ∧ ((¬ res.1 = 0 ∧ r = (-10 : Int32) - nI res.1 ∧ v.1.1 8 = nI res.2.1) ∨ (res.1 = 0 ∧ r = nI (res.2.2.1 15) ∧ v.1.1 8 = -1))) (fun v t => PP G (xw G h v.1 v.2.1 v.2.2.1 v.2.2.2.1 v.2.2.2.2.1 v.2.2.2.2.2.1 v.2.2.2.2.2.2.1 v.2.2.2.2.2.2.2.1 v.2.2.2.2.2.2.2.2.1 v.2.2.2.2.2.2.2.2.2) t.heap) (va_A (xw G h x wn wa w0 w1 rd wr z jj lt) sz)) 0 0 (va_A (xw G h x wn wa w0 w1 rd wr z jj lt) sz) := by
  refine Met.ofW (cc := cX4_weave) (maxL := 2) (ret := (some .int)) (by decide) rfl ?_
  intro p e s m args below meth c s₁ B hml hv
  obtain ⟨ha, hsz, hP, hK, hN, hD0⟩ := hv
  subst ha
  have hx := B.exec
  have hb := B.bytes
  have hr := B.returns
  have hts := atoms_spec (ws := wsX4_weave) B.pre
  have hown : s.vm.findClass RX4 = some m.cls := findClass_of_methodNamed B.named
  have hlocks := B.notSynchronized
  subst hsz
  have hD := hD0.self (sz := s.heap.size)
  generalize hAe : va_A (xw G h x wn wa w0 w1 rd wr z jj lt) s.heap.size = A at hD ⊢
  have hA : ∀ q : Nat, s.heap.size ≤ q → A q := fun q h => by rw [← hAe]; exact Or.inr h
  clear hAe hD0
  have hS : va_S A s.heap s.heap [] := va_S.rf
  have hiX4 : ∀ w ∈ wsX40, w ∈ wsX4_weave := by decide +kernel
  have k30 := hts (.fieldLink RX4 30 "WovenHistory" "reader" "LWovenHistory$Reader;") (List.mem_of_getElem? (i := 1) rfl)
  have hiX1 : ∀ w ∈ wsX10, w ∈ wsX4_weave := by decide +kernel
  have k69 : (Cond.fieldLinkNest "WovenHistory" 69 "WovenHistory$Reader" "faultAt" "I" "WovenHistory").before _ s = true := va_Nw.use (A := ([.ref (h 0)] : List Value).toArray) rfl (hN.1 ("WovenHistory", 69, "WovenHistory$Reader", "faultAt", "I") (List.mem_of_getElem? (i := 10) rfl))
  have k52 := hts (.fieldLink RX4 52 "WovenHistory" "latestFaultAt" "I") (List.mem_of_getElem? (i := 2) rfl)
  have k10 := hts (.fieldLink RX4 10 "WovenHistory" "now" "LWovenHistory$Weave;") (List.mem_of_getElem? (i := 3) rfl)
  have k72 : (Cond.fieldLinkNest "WovenHistory" 72 "WovenHistory$Reader" "woven" "LWovenHistory$Weave;" "WovenHistory").before _ s = true := va_Nw.use (A := ([.ref (h 0)] : List Value).toArray) rfl (hN.1 ("WovenHistory", 72, "WovenHistory$Reader", "woven", "LWovenHistory$Weave;") (List.mem_of_getElem? (i := 11) rfl))
  have k48 := hts (.fieldLink RX4 48 "WovenHistory" "opened" "Z") (List.mem_of_getElem? (i := 4) rfl)
  have hiX3 : ∀ w ∈ wsX30, w ∈ wsX4_weave := by decide +kernel
  have k82 : (Cond.fieldLinkNest "WovenHistory" 82 "WovenHistory$Weave" "versions" "I" "WovenHistory").before _ s = true := va_Nw.use (A := ([.ref (h 0)] : List Value).toArray) rfl (hN.1 ("WovenHistory", 82, "WovenHistory$Weave", "versions", "I") (List.mem_of_getElem? (i := 12) rfl))
  have hl := lv_entry ([.ref (h 0)]) (n := 2) (Nat.le_of_ble_eq_true rfl)
  rw [lg_entry_eq]
  generalize (lg_sl ([.ref (h 0)]) ++ List.replicate (2 - (lg_sl ([.ref (h 0)])).length) Slot.unset).toArray = ls at hl ⊢
  have hl : lv_has ls 2 [(0, .ref (h 0))] := hl
  refine lv_aload_n hx hb dX4_weave_0 rfl (lv_at hl 0 rfl) ?_
  refine va_get (D := gD G) (ci := 4) (v := .ref (h 50)) (C := RX4) (T := TX4) (N := 9) hx hb hts hiX4 hown hK hP 0 (xp_0 _ _ _ _ _ _ _ _ _ _ _ _) rfl 4 (by decide) k30 (fun _ h9 => h9) rfl dX4_weave_1 ?_
  refine cWi (As := []) (rest := []) (S := oS × oS) (wa := xw G h x wn wa w0 w1 rd wr z jj lt) (wc := rv G (fun k => h (50 + k)) rd wr) (w1 := fun v => rv G (fun k => h (50 + k)) v.1 v.2) (wa' := fun v => xw G h x wn wa w0 w1 v.1 v.2 z jj lt) ⟨hx, hb, hml, hown, hts⟩ (mt_X1_readAll l G (fun k => h (50 + k)) _ rd wr len tx (hlen) (by first | assumption | omega) (htx) (by first | assumption | omega)) (cwV 0 hts gX4_weave_X1_readAll rfl rfl rfl (by decide +kernel) ⟨Nat.le_of_ble_eq_true rfl, Nat.le_of_ble_eq_true rfl⟩) hK hN hP hD hS hA [35, 36, 37, 38, 39, 40, 41, 42, 43, 44, 45, 46] (xc_r _ _ _ _ _ _ _ _ _ _ _ _) (by decide) (xf_r _ _ _ _ _ _ _ _ _ _ _ _) (fun _ => rfl) (fun v => xo_r _ _ _ _ _ _ _ _ _ _ _ _ v) (fun v => xm_r _ _ _ _ _ _ _ _ _ _ _ _ v) 0 1 rfl rfl rfl hl.1 rfl (Nat.le_of_ble_eq_true rfl) ⟨Nat.zero_le _, Nat.zero_le _⟩ dX4_weave_4 (fun r4 u4 H locs hw4 hP hD hS => ?_)
  obtain ⟨q4, p4, rs4, rfl, hEv4, hl4, h44, rfl, ⟨n4, m4, en4, hn4, em4, hm4⟩, hF4, hG4, hr44⟩ := hw4
  have hP : PP G (xw G h x wn wa w0 w1 q4 p4 z jj lt) H := hP
  have hD : va_D A (xw G h x wn wa w0 w1 q4 p4 z jj lt) := hD
  refine lv_istore_n (lv' := [(1, .int (nI (rs4.1))), (0, .ref (h 0))]) hx hb dX4_weave_7 rfl hl (by decide) rfl (fun ls hl => ?_)
  refine lv_aload_n hx hb dX4_weave_8 rfl (lv_at hl 1 rfl) ?_
  refine lv_aload_n hx hb dX4_weave_9 rfl (lv_at hl 1 rfl) ?_
  refine va_get (D := gD G) (ci := 4) (v := .ref (h 50)) (C := RX4) (T := TX4) (N := 9) hx hb hts hiX4 hown hK hP 0 (xp_0 _ _ _ _ _ _ _ _ _ _ _ _) rfl 4 (by decide) k30 (fun _ h9 => h9) rfl dX4_weave_10 ?_
  refine va_getN (D := gD G) (ci := 1) (v := .int (q4.1 5)) (C := RX1) (T := TX1) (N := 10) hx hb hts hiX1 hown hK hP 35 (xp_35 _ _ _ _ _ _ _ _ _ _ _ _) rfl 5 (by decide) k69 (fun _ h9 => h9) rfl dX4_weave_13 ?_
  refine va_put (D := gD G) (ci := 4) (v := .int (q4.1 5)) (ty := .int) (C := RX4) (T := TX4) (N := 9) hx hb hts hiX4 tyX4 tyX4_ok nmX4 hown hK hP hD hS 0 (xp_0 _ _ _ _ _ _ _ _ _ _ _ _) rfl 8 (by decide) k52 (fun _ h9 => h9) rfl (by decide +kernel) (rfl) (rfl) (Nat.le_of_ble_eq_true rfl) dX4_weave_16 (fun H locs hP hD hS => ?_)
  have hP : PP G (xw G h (oI x 8 (q4.1 5)) wn wa w0 w1 q4 p4 z jj lt) H := hP
  have hD : va_D A (xw G h (oI x 8 (q4.1 5)) wn wa w0 w1 q4 p4 z jj lt) := hD
  refine lv_iload_n hx hb dX4_weave_19 rfl (lv_at hl 0 rfl) ?_
  refine lv_if_eq (tgt := 28) hx hb dX4_weave_20 (by decide) (fun c20 => ?_) (fun c20 => ?_)
  · skip
    have n20 : rs4.1 = 0 := (nI_eq (a := rs4.1) (b := 0) (by omega) (by omega)).mp c20
    refine lv_aload_n hx hb dX4_weave_28 rfl (lv_at hl 1 rfl) ?_
    refine va_get (D := gD G) (ci := 4) (v := .ref (h 10)) (C := RX4) (T := TX4) (N := 9) hx hb hts hiX4 hown hK hP 0 (xp_0 _ _ _ _ _ _ _ _ _ _ _ _) rfl 0 (by decide) k10 (fun _ h9 => h9) rfl dX4_weave_29 ?_
    refine lv_aload_n hx hb dX4_weave_32 rfl (lv_at hl 1 rfl) ?_
    refine va_get (D := gD G) (ci := 4) (v := .ref (h 50)) (C := RX4) (T := TX4) (N := 9) hx hb hts hiX4 hown hK hP 0 (xp_0 _ _ _ _ _ _ _ _ _ _ _ _) rfl 4 (by decide) k30 (fun _ h9 => h9) rfl dX4_weave_33 ?_
    refine va_getN (D := gD G) (ci := 1) (v := .ref (h 60)) (C := RX1) (T := TX1) (N := 10) hx hb hts hiX1 hown hK hP 35 (xp_35 _ _ _ _ _ _ _ _ _ _ _ _) rfl 9 (by decide) k72 (fun _ h9 => h9) rfl dX4_weave_36 ?_
    refine cWv (As := [.ref (h 60)]) (rest := []) (S := oS × oS) (wa := xw G h (oI x 8 (q4.1 5)) wn wa w0 w1 q4 p4 z jj lt) (wc := wb G (fun k => h (10 + k)) (fun k => h (60 + k)) wn p4) (w1 := fun v => wb G (fun k => h (10 + k)) (fun k => h (60 + k)) v.1 v.2) (wa' := fun v => xw G h (oI x 8 (q4.1 5)) v.1 wa w0 w1 q4 v.2 z jj lt) ⟨hx, hb, hml, hown, hts⟩ (mt_X3_become l G (fun k => h (10 + k)) _ wn p4 (fun k => h (60 + k))) (cwV 1 hts gX4_weave_X3_become rfl rfl rfl (by decide +kernel) ⟨Nat.le_of_ble_eq_true rfl, Nat.le_of_ble_eq_true rfl⟩) hK hN hP hD hS hA [3, 4, 5, 6, 7, 8, 9, 10, 39, 40, 41, 42, 43, 44, 45, 46] (yc_now_wov _ _ _ _ _ _ _ _ _ _ _ _) (by decide) (yf_now_wov _ _ _ _ _ _ _ _ _ _ _ _) (fun _ => rfl) (fun v => yo_now_wov _ _ _ _ _ _ _ _ _ _ _ _ v) (fun v => ym_now_wov _ _ _ _ _ _ _ _ _ _ _ _ v) 0 3 rfl rfl rfl hl.1 rfl (Nat.le_of_ble_eq_true rfl) ⟨Nat.zero_le _, Nat.zero_le _⟩ dX4_weave_39 (fun u39 H locs hw39 hP hD hS => ?_)
    obtain ⟨w39, rfl, e39a, e39b⟩ := hw39
    have hP : PP G (xw G h (oI x 8 (q4.1 5)) w39 wa w0 w1 q4 p4 z jj lt) H := hP
    have hD : va_D A (xw G h (oI x 8 (q4.1 5)) w39 wa w0 w1 q4 p4 z jj lt) := hD
    refine lv_aload_n hx hb dX4_weave_42 rfl (lv_at hl 1 rfl) ?_
    refine lv_iconst (v := nI 0) hx hb dX4_weave_43 (by decide) ?_
    refine va_put (D := gD G) (ci := 4) (v := .int (nI 0)) (ty := .boolean) (C := RX4) (T := TX4) (N := 9) hx hb hts hiX4 tyX4 tyX4_ok nmX4 hown hK hP hD hS 0 (xp_0 _ _ _ _ _ _ _ _ _ _ _ _) rfl 7 (by decide) k48 (fun _ h9 => h9) rfl (by decide +kernel) (rfl) (rfl) (Nat.le_of_ble_eq_true rfl) dX4_weave_44 (fun H locs hP hD hS => ?_)
    have hP : PP G (xw G h (oI (oI x 8 (q4.1 5)) 7 (nI 0)) w39 wa w0 w1 q4 p4 z jj lt) H := hP
    have hD : va_D A (xw G h (oI (oI x 8 (q4.1 5)) 7 (nI 0)) w39 wa w0 w1 q4 p4 z jj lt) := hD
    refine lv_aload_n hx hb dX4_weave_47 rfl (lv_at hl 1 rfl) ?_
    refine cXv (As := []) (rest := []) (S := oS × oS × oS × oS × oS × oS × oS × oS × (Nat → Nat → Int64) × Int64) (wa := xw G h (oI (oI x 8 (q4.1 5)) 7 (nI 0)) w39 wa w0 w1 q4 p4 z jj lt) (w1 := fun v => xw G h v.1 v.2.1 v.2.2.1 v.2.2.2.1 v.2.2.2.2.1 v.2.2.2.2.2.1 v.2.2.2.2.2.2.1 v.2.2.2.2.2.2.2.1 v.2.2.2.2.2.2.2.2.1 v.2.2.2.2.2.2.2.2.2) ⟨hx, hb, hml, hown, hts⟩ (mt_X4_forgetImages l G h _ (oI (oI x 8 (q4.1 5)) 7 (nI 0)) w39 wa w0 w1 q4 p4 z jj lt) (cwV 0 hts gX4_weave_X4_forgetImages rfl rfl rfl (by decide +kernel) ⟨Nat.le_of_ble_eq_true rfl, Nat.le_of_ble_eq_true rfl⟩) hK hN hP hD hS hA (fun v => xm_x _ _ _ _ _ _ _ _ _ _ _ _ v) 0 4 rfl rfl rfl hl.1 rfl (Nat.le_of_ble_eq_true rfl) ⟨Nat.zero_le _, Nat.zero_le _⟩ dX4_weave_48 (fun u48 H locs hw48 hP hD hS => ?_)
    obtain ⟨f48, rfl⟩ := hw48
    have hP : PP G (xw G h (oA (oI (oI x 8 (q4.1 5)) 7 (nI 0)) 3 f48) w39 wa w0 w1 q4 p4 z jj lt) H := hP
    have hD : va_D A (xw G h (oA (oI (oI x 8 (q4.1 5)) 7 (nI 0)) 3 f48) w39 wa w0 w1 q4 p4 z jj lt) := hD
    refine lv_aload_n hx hb dX4_weave_51 rfl (lv_at hl 1 rfl) ?_
    refine va_get (D := gD G) (ci := 4) (v := .ref (h 10)) (C := RX4) (T := TX4) (N := 9) hx hb hts hiX4 hown hK hP 0 (xp_0 _ _ _ _ _ _ _ _ _ _ _ _) rfl 0 (by decide) k10 (fun _ h9 => h9) rfl dX4_weave_52 ?_
    refine va_getN (D := gD G) (ci := 3) (v := .int (w39.1 0)) (C := RX3) (T := TX3) (N := 9) hx hb hts hiX3 hown hK hP 3 (xp_3 _ _ _ _ _ _ _ _ _ _ _ _) rfl 0 (by decide) k82 (fun _ h9 => h9) rfl dX4_weave_55 ?_
    refine topE (e39a.trans (en4)) ?_
    exact W.iret (v := nI n4) hx hb hr (fun t ht hW => ⟨⟨nI n4, (oA (oI (oI x 8 (q4.1 5)) 7 (nI 0)) 3 f48, w39, wa, w0, w1, q4, p4, z, jj, lt), rfl, ⟨rs4, hEv4, ⟨_, _, _, _, _, _, _, _, _, _, rfl, ⟨n4, m4, e39a.trans (en4), by omega, e39b.trans (em4), by omega⟩, ⟨nva, nla, hnva, by omega, hnla, by omega⟩, ⟨nv0, nl0, hnv0, by omega, hnl0, by omega⟩, ⟨nv1, nl1, hnv1, by omega, hnl1, by omega⟩, hl4, rfl⟩, Or.inr ⟨n20, en4.symm.trans (hG4 n20).2.1, (hG4 n20).1⟩⟩, show PP G (xw G h (oA (oI (oI x 8 (q4.1 5)) 7 (nI 0)) 3 f48) w39 wa w0 w1 q4 p4 z jj lt) t.heap by rw [ht]; exact hP⟩, hS.F ht⟩) hS.2.2 dX4_weave_58
  · skip
    have n20 : ¬ (rs4.1 = 0) := fun q9 => c20 ((nI_eq (a := rs4.1) (b := 0) (by omega) (by omega)).mpr q9)
    refine lv_bipush (v := (-10 : Int32)) hx hb dX4_weave_23 (by decide) ?_
    refine lv_iload_n hx hb dX4_weave_25 rfl (lv_at hl 0 rfl) ?_
    refine lv_isub hx hb dX4_weave_26 ?_
    exact W.iret (v := (-10 : Int32) - (nI (rs4.1))) hx hb hr (fun t ht hW => ⟨⟨(-10 : Int32) - (nI (rs4.1)), (oI x 8 (q4.1 5), wn, wa, w0, w1, q4, p4, z, jj, lt), rfl, ⟨rs4, hEv4, ⟨_, _, _, _, _, _, _, _, _, _, rfl, ⟨nv, nl, hnv, by omega, hnl, by omega⟩, ⟨nva, nla, hnva, by omega, hnla, by omega⟩, ⟨nv0, nl0, hnv0, by omega, hnl0, by omega⟩, ⟨nv1, nl1, hnv1, by omega, hnl1, by omega⟩, hl4, rfl⟩, Or.inl ⟨n20, rfl, hF4 n20⟩⟩, show PP G (xw G h (oI x 8 (q4.1 5)) wn wa w0 w1 q4 p4 z jj lt) t.heap by rw [ht]; exact hP⟩, hS.F ht⟩) hS.2.2 dX4_weave_27
set_option maxHeartbeats 1000000 in
set_option maxRecDepth 100000 in
theorem mt_X4_open (l : Launch) (G : gG) (h : Nat → Nat) (sz : Nat) (x : oS) (wn : oS) (wa : oS) (w0 : oS) (w1 : oS) (rd : oS) (wr : oS) (z : oS) (jj : Nat → Nat → Int64) (lt : Int64) (nv : Nat) (nl : Nat) (nva : Nat) (nla : Nat) (nv0 : Nat) (nl0 : Nat) (nv1 : Nat) (nl1 : Nat) (len : Nat) (a : Int32) (hnv : wn.1 0 = nI nv) (hnl : wn.1 5 = nI nl) (hnva : wa.1 0 = nI nva) (hnla : wa.1 5 = nI nla) (hnv0 : w0.1 0 = nI nv0) (hnl0 : w0.1 5 = nI nl0) (hnv1 : w1.1 0 = nI nv1) (hnl1 : w1.1 5 = nI nl1) (hlen : rd.1 1 = nI len) (hnv24 : nv ≤ 24) (hnl120 : nl ≤ 120) (hva24 : nva ≤ 24) (hla120 : nla ≤ 120) (hv024 : nv0 ≤ 24) (hl0120 : nl0 ≤ 120) (hv124 : nv1 ≤ 24) (hl1120 : nl1 ≤ 120) (hl240 : len ≤ 240) (hsz : ∀ j, j < 4 → z.2 1 j = -1 ∨ ∃ q, q ≤ 40 ∧ z.2 1 j = nI q) : Met l yX4_open wsX4_open ({ frames := 3, cells := 0, slots := 0, locals := 65 }) (preW G (xw G h x wn wa w0 w1 rd wr z jj lt) sz [.ref (h 0), .int a]) (va_Qi (fun (r : Int32) (v : oS × oS × oS × oS × oS × oS × oS × oS × (Nat → Nat → Int64) × Int64) => XQ x rd z v) (fun v t => PP G (xw G h v.1 v.2.1 v.2.2.1 v.2.2.2.1 v.2.2.2.2.1 v.2.2.2.2.2.1 v.2.2.2.2.2.2.1 v.2.2.2.2.2.2.2.1 v.2.2.2.2.2.2.2.2.1 v.2.2.2.2.2.2.2.2.2) t.heap) (va_A (xw G h x wn wa w0 w1 rd wr z jj lt) sz)) 0 0 (va_A (xw G h x wn wa w0 w1 rd wr z jj lt) sz) := by
  refine Met.ofW (cc := cX4_open) (maxL := 2) (ret := (some .int)) (by decide) rfl ?_
  intro p e s m args below meth c s₁ B hml hv
  obtain ⟨ha, hsz, hP, hK, hN, hD0⟩ := hv
  subst ha
  have hx := B.exec
  have hb := B.bytes
  have hr := B.returns
  have hts := atoms_spec (ws := wsX4_open) B.pre
  have hown : s.vm.findClass RX4 = some m.cls := findClass_of_methodNamed B.named
  have hlocks := B.notSynchronized
  subst hsz
  have hD := hD0.self (sz := s.heap.size)
  generalize hAe : va_A (xw G h x wn wa w0 w1 rd wr z jj lt) s.heap.size = A at hD ⊢
  have hA : ∀ q : Nat, s.heap.size ≤ q → A q := fun q h => by rw [← hAe]; exact Or.inr h
  clear hAe hD0
  have hS : va_S A s.heap s.heap [] := va_S.rf
  have hiX4 : ∀ w ∈ wsX40, w ∈ wsX4_open := by decide +kernel
  have k10 := hts (.fieldLink RX4 10 "WovenHistory" "now" "LWovenHistory$Weave;") (List.mem_of_getElem? (i := 1) rfl)
  have k48 := hts (.fieldLink RX4 48 "WovenHistory" "opened" "Z") (List.mem_of_getElem? (i := 3) rfl)
  have hiX3 : ∀ w ∈ wsX30, w ∈ wsX4_open := by decide +kernel
  have k82 : (Cond.fieldLinkNest "WovenHistory" 82 "WovenHistory$Weave" "versions" "I" "WovenHistory").before _ s = true := va_Nw.use (A := ([.ref (h 0), .int a] : List Value).toArray) rfl (hN.1 ("WovenHistory", 82, "WovenHistory$Weave", "versions", "I") (List.mem_of_getElem? (i := 12) rfl))
  have k16 := hts (.fieldLink RX4 16 "WovenHistory" "aheadOfOpen" "LWovenHistory$Weave;") (List.mem_of_getElem? (i := 6) rfl)
  have hl := lv_entry ([.ref (h 0), .int a]) (n := 2) (Nat.le_of_ble_eq_true rfl)
  rw [lg_entry_eq]
  generalize (lg_sl ([.ref (h 0), .int a]) ++ List.replicate (2 - (lg_sl ([.ref (h 0), .int a])).length) Slot.unset).toArray = ls at hl ⊢
  have hl : lv_has ls 2 [(0, .ref (h 0)), (1, .int a)] := hl
  refine lv_iload_n hx hb dX4_open_0 rfl (lv_at hl 1 rfl) ?_
  refine lv_iconst (v := (-1 : Int32)) hx hb dX4_open_1 (by decide) ?_
  refine lv_icmp_eq (tgt := 19) hx hb dX4_open_2 (by decide) (fun c2 => ?_) (fun c2 => ?_)
  · skip
    refine lv_aload_n hx hb dX4_open_19 rfl (lv_at hl 0 rfl) ?_
    refine va_get (D := gD G) (ci := 4) (v := .int (x.1 7)) (C := RX4) (T := TX4) (N := 9) hx hb hts hiX4 hown hK hP 0 (xp_0 _ _ _ _ _ _ _ _ _ _ _ _) rfl 7 (by decide) k48 (fun _ h9 => h9) rfl dX4_open_20 ?_
    refine lv_if_eq (tgt := 29) hx hb dX4_open_23 (by decide) (fun c23 => ?_) (fun c23 => ?_)
    · skip
      refine lv_aload_n hx hb dX4_open_29 rfl (lv_at hl 0 rfl) ?_
      refine va_get (D := gD G) (ci := 4) (v := .ref (h 10)) (C := RX4) (T := TX4) (N := 9) hx hb hts hiX4 hown hK hP 0 (xp_0 _ _ _ _ _ _ _ _ _ _ _ _) rfl 0 (by decide) k10 (fun _ h9 => h9) rfl dX4_open_30 ?_
      refine va_getN (D := gD G) (ci := 3) (v := .int (wn.1 0)) (C := RX3) (T := TX3) (N := 9) hx hb hts hiX3 hown hK hP 3 (xp_3 _ _ _ _ _ _ _ _ _ _ _ _) rfl 0 (by decide) k82 (fun _ h9 => h9) rfl dX4_open_33 ?_
      refine topE hnv ?_
      refine lv_bipush (v := nI 24) hx hb dX4_open_36 (by decide) ?_
      refine lv_icmp_lt (tgt := 44) hx hb dX4_open_38 (by decide) (fun c38 => ?_) (fun c38 => ?_)
      · skip
        have n38 : nv < 24 := (nI_ltI (a := nv) (b := 24) (by omega) (by omega)).mp c38
        refine lv_aload_n hx hb dX4_open_44 rfl (lv_at hl 0 rfl) ?_
        refine va_get (D := gD G) (ci := 4) (v := .ref (h 20)) (C := RX4) (T := TX4) (N := 9) hx hb hts hiX4 hown hK hP 0 (xp_0 _ _ _ _ _ _ _ _ _ _ _ _) rfl 1 (by decide) k16 (fun _ h9 => h9) rfl dX4_open_45 ?_
        refine lv_aload_n hx hb dX4_open_48 rfl (lv_at hl 0 rfl) ?_
        refine va_get (D := gD G) (ci := 4) (v := .ref (h 10)) (C := RX4) (T := TX4) (N := 9) hx hb hts hiX4 hown hK hP 0 (xp_0 _ _ _ _ _ _ _ _ _ _ _ _) rfl 0 (by decide) k10 (fun _ h9 => h9) rfl dX4_open_49 ?_
        refine cWv (As := [.ref (h 10)]) (rest := []) (S := oS × oS) (wa := xw G h x wn wa w0 w1 rd wr z jj lt) (wc := wb G (fun k => h (20 + k)) (fun k => h (10 + k)) wa wn) (w1 := fun v => wb G (fun k => h (20 + k)) (fun k => h (10 + k)) v.1 v.2) (wa' := fun v => xw G h x v.2 v.1 w0 w1 rd wr z jj lt) ⟨hx, hb, hml, hown, hts⟩ (mt_X3_become l G (fun k => h (20 + k)) _ wa wn (fun k => h (10 + k))) (cwV 1 hts gX4_open_X3_become rfl rfl rfl (by decide +kernel) ⟨Nat.le_of_ble_eq_true rfl, Nat.le_of_ble_eq_true rfl⟩) hK hN hP hD hS hA [11, 12, 13, 14, 15, 16, 17, 18, 3, 4, 5, 6, 7, 8, 9, 10] (yc_ahead_now _ _ _ _ _ _ _ _ _ _ _ _) (by decide) (yf_ahead_now _ _ _ _ _ _ _ _ _ _ _ _) (fun _ => rfl) (fun v => yo_ahead_now _ _ _ _ _ _ _ _ _ _ _ _ v) (fun v => ym_ahead_now _ _ _ _ _ _ _ _ _ _ _ _ v) 0 3 rfl rfl rfl hl.1 rfl (Nat.le_of_ble_eq_true rfl) ⟨Nat.zero_le _, Nat.zero_le _⟩ dX4_open_52 (fun u52 H locs hw52 hP hD hS => ?_)
        obtain ⟨w52, rfl, e52a, e52b⟩ := hw52
        have hP : PP G (xw G h x wn w52 w0 w1 rd wr z jj lt) H := hP
        have hD : va_D A (xw G h x wn w52 w0 w1 rd wr z jj lt) := hD
        refine lv_aload_n hx hb dX4_open_55 rfl (lv_at hl 0 rfl) ?_
        refine va_get (D := gD G) (ci := 4) (v := .ref (h 10)) (C := RX4) (T := TX4) (N := 9) hx hb hts hiX4 hown hK hP 0 (xp_0 _ _ _ _ _ _ _ _ _ _ _ _) rfl 0 (by decide) k10 (fun _ h9 => h9) rfl dX4_open_56 ?_
        refine lv_iload_n hx hb dX4_open_59 rfl (lv_at hl 1 rfl) ?_
        refine lv_iconst (v := nI 0) hx hb dX4_open_60 (by decide) ?_
        refine lv_iconst (v := nI 0) hx hb dX4_open_61 (by decide) ?_
        refine cWv (As := [.int a, .int (nI 0), .int (nI 0)]) (rest := []) (S := oS) (wa := xw G h x wn w52 w0 w1 rd wr z jj lt) (wc := wv G (fun k => h (10 + k)) wn) (w1 := fun v => wv G (fun k => h (10 + k)) v) (wa' := fun v => xw G h x v w52 w0 w1 rd wr z jj lt) ⟨hx, hb, hml, hown, hts⟩ (mt_X3_beginVersion l G (fun k => h (10 + k)) _ wn nv a (nI 0) (nI 0) (hnv) (by first | assumption | omega)) (cwV 3 hts gX4_open_X3_beginVersion rfl rfl rfl (by decide +kernel) ⟨Nat.le_of_ble_eq_true rfl, Nat.le_of_ble_eq_true rfl⟩) hK hN hP hD hS hA [3, 4, 5, 6, 7, 8, 9, 10] (xc_now _ _ _ _ _ _ _ _ _ _ _ _) (by decide) (xf_now _ _ _ _ _ _ _ _ _ _ _ _) (fun _ => rfl) (fun v => xo_now _ _ _ _ _ _ _ _ _ _ _ _ v) (fun v => xm_now _ _ _ _ _ _ _ _ _ _ _ _ v) 0 3 rfl rfl rfl hl.1 rfl (Nat.le_of_ble_eq_true rfl) ⟨Nat.zero_le _, Nat.zero_le _⟩ dX4_open_62 (fun u62 H locs hw62 hP hD hS => ?_)
        have hR62 := hw62
        have hP : PP G (xw G h x u62 w52 w0 w1 rd wr z jj lt) H := hP
        have hD : va_D A (xw G h x u62 w52 w0 w1 rd wr z jj lt) := hD
        refine lv_aload_n hx hb dX4_open_65 rfl (lv_at hl 0 rfl) ?_
        refine lv_iconst (v := nI 1) hx hb dX4_open_66 (by decide) ?_
        refine va_put (D := gD G) (ci := 4) (v := .int (nI 1)) (ty := .boolean) (C := RX4) (T := TX4) (N := 9) hx hb hts hiX4 tyX4 tyX4_ok nmX4 hown hK hP hD hS 0 (xp_0 _ _ _ _ _ _ _ _ _ _ _ _) rfl 7 (by decide) k48 (fun _ h9 => h9) rfl (by decide +kernel) (rfl) (rfl) (Nat.le_of_ble_eq_true rfl) dX4_open_67 (fun H locs hP hD hS => ?_)
        have hP : PP G (xw G h (oI x 7 (nI 1)) u62 w52 w0 w1 rd wr z jj lt) H := hP
        have hD : va_D A (xw G h (oI x 7 (nI 1)) u62 w52 w0 w1 rd wr z jj lt) := hD
        refine lv_aload_n hx hb dX4_open_70 rfl (lv_at hl 0 rfl) ?_
        refine va_get (D := gD G) (ci := 4) (v := .ref (h 10)) (C := RX4) (T := TX4) (N := 9) hx hb hts hiX4 hown hK hP 0 (xp_0 _ _ _ _ _ _ _ _ _ _ _ _) rfl 0 (by decide) k10 (fun _ h9 => h9) rfl dX4_open_71 ?_
        refine va_getN (D := gD G) (ci := 3) (v := .int (u62.1 0)) (C := RX3) (T := TX3) (N := 9) hx hb hts hiX3 hown hK hP 3 (xp_3 _ _ _ _ _ _ _ _ _ _ _ _) rfl 0 (by decide) k82 (fun _ h9 => h9) rfl dX4_open_74 ?_
        refine topE ((hR62.1 0 (by decide)).trans (hnv)) ?_
        exact W.iret (v := nI nv) hx hb hr (fun t ht hW => ⟨⟨nI nv, (oI x 7 (nI 1), u62, w52, w0, w1, rd, wr, z, jj, lt), rfl, ⟨_, _, _, _, _, _, _, _, _, _, rfl, ⟨nv, nl, (hR62.1 0 (by decide)).trans (hnv), by omega, (hR62.1 5 (by decide)).trans (hnl), by omega⟩, ⟨nv, nl, e52a.trans (hnv), by omega, e52b.trans (hnl), by omega⟩, ⟨nv0, nl0, hnv0, by omega, hnl0, by omega⟩, ⟨nv1, nl1, hnv1, by omega, hnl1, by omega⟩, rfl, rfl, rfl, rfl⟩, show PP G (xw G h (oI x 7 (nI 1)) u62 w52 w0 w1 rd wr z jj lt) t.heap by rw [ht]; exact hP⟩, hS.F ht⟩) hS.2.2 dX4_open_77
      · skip
        have n38 : ¬ (nv < 24) := fun q9 => c38 ((nI_ltI (a := nv) (b := 24) (by omega) (by omega)).mpr q9)
        refine lv_ldc (v := (-1000000004 : Int32)) hx hb hown (hts (.constant RX4 64 (-1000000004)) (List.mem_of_getElem? (i := 5) rfl)) dX4_open_41 ?_
        exact W.iret (v := (-1000000004 : Int32)) hx hb hr (fun t ht hW => ⟨⟨(-1000000004 : Int32), (x, wn, wa, w0, w1, rd, wr, z, jj, lt), rfl, ⟨_, _, _, _, _, _, _, _, _, _, rfl, ⟨nv, nl, hnv, by omega, hnl, by omega⟩, ⟨nva, nla, hnva, by omega, hnla, by omega⟩, ⟨nv0, nl0, hnv0, by omega, hnl0, by omega⟩, ⟨nv1, nl1, hnv1, by omega, hnl1, by omega⟩, rfl, rfl, rfl, rfl⟩, show PP G (xw G h x wn wa w0 w1 rd wr z jj lt) t.heap by rw [ht]; exact hP⟩, hS.F ht⟩) hS.2.2 dX4_open_43
    · skip
      refine lv_ldc (v := (-1000000003 : Int32)) hx hb hown (hts (.constant RX4 148 (-1000000003)) (List.mem_of_getElem? (i := 4) rfl)) dX4_open_26 ?_
      exact W.iret (v := (-1000000003 : Int32)) hx hb hr (fun t ht hW => ⟨⟨(-1000000003 : Int32), (x, wn, wa, w0, w1, rd, wr, z, jj, lt), rfl, ⟨_, _, _, _, _, _, _, _, _, _, rfl, ⟨nv, nl, hnv, by omega, hnl, by omega⟩, ⟨nva, nla, hnva, by omega, hnla, by omega⟩, ⟨nv0, nl0, hnv0, by omega, hnl0, by omega⟩, ⟨nv1, nl1, hnv1, by omega, hnl1, by omega⟩, rfl, rfl, rfl, rfl⟩, show PP G (xw G h x wn wa w0 w1 rd wr z jj lt) t.heap by rw [ht]; exact hP⟩, hS.F ht⟩) hS.2.2 dX4_open_28
  · skip
    refine lv_aload_n hx hb dX4_open_5 rfl (lv_at hl 0 rfl) ?_
    refine va_get (D := gD G) (ci := 4) (v := .ref (h 10)) (C := RX4) (T := TX4) (N := 9) hx hb hts hiX4 hown hK hP 0 (xp_0 _ _ _ _ _ _ _ _ _ _ _ _) rfl 0 (by decide) k10 (fun _ h9 => h9) rfl dX4_open_6 ?_
    refine lv_iload_n hx hb dX4_open_9 rfl (lv_at hl 1 rfl) ?_
    refine cRi (w := wv G (fun k => h (10 + k)) wn) (As := [.int a]) (rest := []) ⟨hx, hb, hml, hown, hts⟩ (mt_X3_hasVersion l G (fun k => h (10 + k)) wn nv a (hnv) (by first | assumption | omega)) (cwV 1 hts gX4_open_X3_hasVersion rfl rfl rfl (by decide +kernel) ⟨Nat.le_of_ble_eq_true rfl, Nat.le_of_ble_eq_true rfl⟩) hK hN (hP.sub [3, 4, 5, 6, 7, 8, 9, 10] (xf_now _ _ _ _ _ _ _ _ _ _ _ _)) 0 3 rfl rfl rfl hl.1 rfl (Nat.le_of_ble_eq_true rfl) ⟨Nat.zero_le _, Nat.zero_le _⟩ dX4_open_10 (fun r10 hw10 => ?_)
    rcases hw10 with ⟨rfl, j10, hj10, ej10⟩ | ⟨rfl, hn10⟩
    · skip
      refine lv_if_ne (tgt := 19) hx hb dX4_open_13 (by decide) (fun _ => ?_) (fun c9 => absurd c9 (by decide))
      refine lv_aload_n hx hb dX4_open_19 rfl (lv_at hl 0 rfl) ?_
      refine va_get (D := gD G) (ci := 4) (v := .int (x.1 7)) (C := RX4) (T := TX4) (N := 9) hx hb hts hiX4 hown hK hP 0 (xp_0 _ _ _ _ _ _ _ _ _ _ _ _) rfl 7 (by decide) k48 (fun _ h9 => h9) rfl dX4_open_20 ?_
      refine lv_if_eq (tgt := 29) hx hb dX4_open_23 (by decide) (fun c23 => ?_) (fun c23 => ?_)
      · skip
        refine lv_aload_n hx hb dX4_open_29 rfl (lv_at hl 0 rfl) ?_
        refine va_get (D := gD G) (ci := 4) (v := .ref (h 10)) (C := RX4) (T := TX4) (N := 9) hx hb hts hiX4 hown hK hP 0 (xp_0 _ _ _ _ _ _ _ _ _ _ _ _) rfl 0 (by decide) k10 (fun _ h9 => h9) rfl dX4_open_30 ?_
        refine va_getN (D := gD G) (ci := 3) (v := .int (wn.1 0)) (C := RX3) (T := TX3) (N := 9) hx hb hts hiX3 hown hK hP 3 (xp_3 _ _ _ _ _ _ _ _ _ _ _ _) rfl 0 (by decide) k82 (fun _ h9 => h9) rfl dX4_open_33 ?_
        refine topE hnv ?_
        refine lv_bipush (v := nI 24) hx hb dX4_open_36 (by decide) ?_
        refine lv_icmp_lt (tgt := 44) hx hb dX4_open_38 (by decide) (fun c38 => ?_) (fun c38 => ?_)
        · skip
          have n38 : nv < 24 := (nI_ltI (a := nv) (b := 24) (by omega) (by omega)).mp c38
          refine lv_aload_n hx hb dX4_open_44 rfl (lv_at hl 0 rfl) ?_
          refine va_get (D := gD G) (ci := 4) (v := .ref (h 20)) (C := RX4) (T := TX4) (N := 9) hx hb hts hiX4 hown hK hP 0 (xp_0 _ _ _ _ _ _ _ _ _ _ _ _) rfl 1 (by decide) k16 (fun _ h9 => h9) rfl dX4_open_45 ?_
          refine lv_aload_n hx hb dX4_open_48 rfl (lv_at hl 0 rfl) ?_
          refine va_get (D := gD G) (ci := 4) (v := .ref (h 10)) (C := RX4) (T := TX4) (N := 9) hx hb hts hiX4 hown hK hP 0 (xp_0 _ _ _ _ _ _ _ _ _ _ _ _) rfl 0 (by decide) k10 (fun _ h9 => h9) rfl dX4_open_49 ?_
          refine cWv (As := [.ref (h 10)]) (rest := []) (S := oS × oS) (wa := xw G h x wn wa w0 w1 rd wr z jj lt) (wc := wb G (fun k => h (20 + k)) (fun k => h (10 + k)) wa wn) (w1 := fun v => wb G (fun k => h (20 + k)) (fun k => h (10 + k)) v.1 v.2) (wa' := fun v => xw G h x v.2 v.1 w0 w1 rd wr z jj lt) ⟨hx, hb, hml, hown, hts⟩ (mt_X3_become l G (fun k => h (20 + k)) _ wa wn (fun k => h (10 + k))) (cwV 1 hts gX4_open_X3_become rfl rfl rfl (by decide +kernel) ⟨Nat.le_of_ble_eq_true rfl, Nat.le_of_ble_eq_true rfl⟩) hK hN hP hD hS hA [11, 12, 13, 14, 15, 16, 17, 18, 3, 4, 5, 6, 7, 8, 9, 10] (yc_ahead_now _ _ _ _ _ _ _ _ _ _ _ _) (by decide) (yf_ahead_now _ _ _ _ _ _ _ _ _ _ _ _) (fun _ => rfl) (fun v => yo_ahead_now _ _ _ _ _ _ _ _ _ _ _ _ v) (fun v => ym_ahead_now _ _ _ _ _ _ _ _ _ _ _ _ v) 0 3 rfl rfl rfl hl.1 rfl (Nat.le_of_ble_eq_true rfl) ⟨Nat.zero_le _, Nat.zero_le _⟩ dX4_open_52 (fun u52 H locs hw52 hP hD hS => ?_)
          obtain ⟨w52, rfl, e52a, e52b⟩ := hw52
          have hP : PP G (xw G h x wn w52 w0 w1 rd wr z jj lt) H := hP
          have hD : va_D A (xw G h x wn w52 w0 w1 rd wr z jj lt) := hD
          refine lv_aload_n hx hb dX4_open_55 rfl (lv_at hl 0 rfl) ?_
          refine va_get (D := gD G) (ci := 4) (v := .ref (h 10)) (C := RX4) (T := TX4) (N := 9) hx hb hts hiX4 hown hK hP 0 (xp_0 _ _ _ _ _ _ _ _ _ _ _ _) rfl 0 (by decide) k10 (fun _ h9 => h9) rfl dX4_open_56 ?_
          refine lv_iload_n hx hb dX4_open_59 rfl (lv_at hl 1 rfl) ?_
          refine lv_iconst (v := nI 0) hx hb dX4_open_60 (by decide) ?_
          refine lv_iconst (v := nI 0) hx hb dX4_open_61 (by decide) ?_
          refine cWv (As := [.int a, .int (nI 0), .int (nI 0)]) (rest := []) (S := oS) (wa := xw G h x wn w52 w0 w1 rd wr z jj lt) (wc := wv G (fun k => h (10 + k)) wn) (w1 := fun v => wv G (fun k => h (10 + k)) v) (wa' := fun v => xw G h x v w52 w0 w1 rd wr z jj lt) ⟨hx, hb, hml, hown, hts⟩ (mt_X3_beginVersion l G (fun k => h (10 + k)) _ wn nv a (nI 0) (nI 0) (hnv) (by first | assumption | omega)) (cwV 3 hts gX4_open_X3_beginVersion rfl rfl rfl (by decide +kernel) ⟨Nat.le_of_ble_eq_true rfl, Nat.le_of_ble_eq_true rfl⟩) hK hN hP hD hS hA [3, 4, 5, 6, 7, 8, 9, 10] (xc_now _ _ _ _ _ _ _ _ _ _ _ _) (by decide) (xf_now _ _ _ _ _ _ _ _ _ _ _ _) (fun _ => rfl) (fun v => xo_now _ _ _ _ _ _ _ _ _ _ _ _ v) (fun v => xm_now _ _ _ _ _ _ _ _ _ _ _ _ v) 0 3 rfl rfl rfl hl.1 rfl (Nat.le_of_ble_eq_true rfl) ⟨Nat.zero_le _, Nat.zero_le _⟩ dX4_open_62 (fun u62 H locs hw62 hP hD hS => ?_)
          have hR62 := hw62
          have hP : PP G (xw G h x u62 w52 w0 w1 rd wr z jj lt) H := hP
          have hD : va_D A (xw G h x u62 w52 w0 w1 rd wr z jj lt) := hD
          refine lv_aload_n hx hb dX4_open_65 rfl (lv_at hl 0 rfl) ?_
          refine lv_iconst (v := nI 1) hx hb dX4_open_66 (by decide) ?_
          refine va_put (D := gD G) (ci := 4) (v := .int (nI 1)) (ty := .boolean) (C := RX4) (T := TX4) (N := 9) hx hb hts hiX4 tyX4 tyX4_ok nmX4 hown hK hP hD hS 0 (xp_0 _ _ _ _ _ _ _ _ _ _ _ _) rfl 7 (by decide) k48 (fun _ h9 => h9) rfl (by decide +kernel) (rfl) (rfl) (Nat.le_of_ble_eq_true rfl) dX4_open_67 (fun H locs hP hD hS => ?_)
          have hP : PP G (xw G h (oI x 7 (nI 1)) u62 w52 w0 w1 rd wr z jj lt) H := hP
          have hD : va_D A (xw G h (oI x 7 (nI 1)) u62 w52 w0 w1 rd wr z jj lt) := hD
          refine lv_aload_n hx hb dX4_open_70 rfl (lv_at hl 0 rfl) ?_
          refine va_get (D := gD G) (ci := 4) (v := .ref (h 10)) (C := RX4) (T := TX4) (N := 9) hx hb hts hiX4 hown hK hP 0 (xp_0 _ _ _ _ _ _ _ _ _ _ _ _) rfl 0 (by decide) k10 (fun _ h9 => h9) rfl dX4_open_71 ?_
          refine va_getN (D := gD G) (ci := 3) (v := .int (u62.1 0)) (C := RX3) (T := TX3) (N := 9) hx hb hts hiX3 hown hK hP 3 (xp_3 _ _ _ _ _ _ _ _ _ _ _ _) rfl 0 (by decide) k82 (fun _ h9 => h9) rfl dX4_open_74 ?_
          refine topE ((hR62.1 0 (by decide)).trans (hnv)) ?_
          exact W.iret (v := nI nv) hx hb hr (fun t ht hW => ⟨⟨nI nv, (oI x 7 (nI 1), u62, w52, w0, w1, rd, wr, z, jj, lt), rfl, ⟨_, _, _, _, _, _, _, _, _, _, rfl, ⟨nv, nl, (hR62.1 0 (by decide)).trans (hnv), by omega, (hR62.1 5 (by decide)).trans (hnl), by omega⟩, ⟨nv, nl, e52a.trans (hnv), by omega, e52b.trans (hnl), by omega⟩, ⟨nv0, nl0, hnv0, by omega, hnl0, by omega⟩, ⟨nv1, nl1, hnv1, by omega, hnl1, by omega⟩, rfl, rfl, rfl, rfl⟩, show PP G (xw G h (oI x 7 (nI 1)) u62 w52 w0 w1 rd wr z jj lt) t.heap by rw [ht]; exact hP⟩, hS.F ht⟩) hS.2.2 dX4_open_77
        · skip
          have n38 : ¬ (nv < 24) := fun q9 => c38 ((nI_ltI (a := nv) (b := 24) (by omega) (by omega)).mpr q9)
          refine lv_ldc (v := (-1000000004 : Int32)) hx hb hown (hts (.constant RX4 64 (-1000000004)) (List.mem_of_getElem? (i := 5) rfl)) dX4_open_41 ?_
          exact W.iret (v := (-1000000004 : Int32)) hx hb hr (fun t ht hW => ⟨⟨(-1000000004 : Int32), (x, wn, wa, w0, w1, rd, wr, z, jj, lt), rfl, ⟨_, _, _, _, _, _, _, _, _, _, rfl, ⟨nv, nl, hnv, by omega, hnl, by omega⟩, ⟨nva, nla, hnva, by omega, hnla, by omega⟩, ⟨nv0, nl0, hnv0, by omega, hnl0, by omega⟩, ⟨nv1, nl1, hnv1, by omega, hnl1, by omega⟩, rfl, rfl, rfl, rfl⟩, show PP G (xw G h x wn wa w0 w1 rd wr z jj lt) t.heap by rw [ht]; exact hP⟩, hS.F ht⟩) hS.2.2 dX4_open_43
      · skip
        refine lv_ldc (v := (-1000000003 : Int32)) hx hb hown (hts (.constant RX4 148 (-1000000003)) (List.mem_of_getElem? (i := 4) rfl)) dX4_open_26 ?_
        exact W.iret (v := (-1000000003 : Int32)) hx hb hr (fun t ht hW => ⟨⟨(-1000000003 : Int32), (x, wn, wa, w0, w1, rd, wr, z, jj, lt), rfl, ⟨_, _, _, _, _, _, _, _, _, _, rfl, ⟨nv, nl, hnv, by omega, hnl, by omega⟩, ⟨nva, nla, hnva, by omega, hnla, by omega⟩, ⟨nv0, nl0, hnv0, by omega, hnl0, by omega⟩, ⟨nv1, nl1, hnv1, by omega, hnl1, by omega⟩, rfl, rfl, rfl, rfl⟩, show PP G (xw G h x wn wa w0 w1 rd wr z jj lt) t.heap by rw [ht]; exact hP⟩, hS.F ht⟩) hS.2.2 dX4_open_28
    · skip
      refine lv_if_ne (tgt := 19) hx hb dX4_open_13 (by decide) (fun c9 => absurd (by decide) c9) (fun _ => ?_)
      refine lv_ldc (v := (-1000000001 : Int32)) hx hb hown (hts (.constant RX4 110 (-1000000001)) (List.mem_of_getElem? (i := 2) rfl)) dX4_open_16 ?_
      exact W.iret (v := (-1000000001 : Int32)) hx hb hr (fun t ht hW => ⟨⟨(-1000000001 : Int32), (x, wn, wa, w0, w1, rd, wr, z, jj, lt), rfl, ⟨_, _, _, _, _, _, _, _, _, _, rfl, ⟨nv, nl, hnv, by omega, hnl, by omega⟩, ⟨nva, nla, hnva, by omega, hnla, by omega⟩, ⟨nv0, nl0, hnv0, by omega, hnl0, by omega⟩, ⟨nv1, nl1, hnv1, by omega, hnl1, by omega⟩, rfl, rfl, rfl, rfl⟩, show PP G (xw G h x wn wa w0 w1 rd wr z jj lt) t.heap by rw [ht]; exact hP⟩, hS.F ht⟩) hS.2.2 dX4_open_18
