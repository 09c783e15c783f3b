set_option maxHeartbeats 1000000 in
set_option maxRecDepth 100000 in
theorem mt_X1_fail0 (l : Launch) (G : gG) (h : Nat → Nat) (sz : Nat) (rd : oS) (w : oS) (n0 : Int32) (pl : Int32) (h40 : rd.1 4 = nI 0) : Met l yX1_fail wsX1_fail ({ frames := 0, cells := 0, slots := 0, locals := 0 }) (preW G (rv G h rd w) sz [.ref (h 0), .int n0, .int pl]) (va_Qv (fun (v : oS × oS) => v = (oI (oI rd 4 n0) 5 pl, w)) (fun v t => PP G (rv G h v.1 v.2) t.heap) (va_A (rv G h rd w) sz)) 0 0 (va_A (rv G h rd w) sz) := by
  refine Met.ofW (cc := cX1_fail) (maxL := 3) (ret := none) (by decide) rfl ?_
  intro p e s m args below meth c s₁ B hml hv
  obtain ⟨ha, hsz, hP, hK, hN, hD0⟩ := hv
  subst ha
  have hx := B.exec
  have hb := B.bytes
  have hr := B.returns
  have hts := atoms_spec (ws := wsX1_fail) B.pre
  have hown : s.vm.findClass RX1 = some m.cls := findClass_of_methodNamed B.named
  have hlocks := B.notSynchronized
  subst hsz
  have hD := hD0.self (sz := s.heap.size)
  generalize hAe : va_A (rv G h rd w) s.heap.size = A at hD ⊢
  have hA : ∀ q : Nat, s.heap.size ≤ q → A q := fun q h => by rw [← hAe]; exact Or.inr h
  clear hAe hD0
  have hS : va_S A s.heap s.heap [] := va_S.rf
  have hiX1 : ∀ w ∈ wsX10, w ∈ wsX1_fail := fun w h9 => List.mem_cons_of_mem _ (List.mem_append_right _ (h9))
  have k25 := hts (.fieldLink RX1 25 "WovenHistory$Reader" "faultNumber" "I") (List.mem_of_getElem? (i := 1) rfl)
  have k28 := hts (.fieldLink RX1 28 "WovenHistory$Reader" "faultAt" "I") (List.mem_of_getElem? (i := 2) rfl)
  have hl := lv_entry ([.ref (h 0), .int n0, .int pl]) (n := 3) (Nat.le_of_ble_eq_true rfl)
  rw [lg_entry_eq]
  generalize (lg_sl ([.ref (h 0), .int n0, .int pl]) ++ List.replicate (3 - (lg_sl ([.ref (h 0), .int n0, .int pl])).length) Slot.unset).toArray = ls at hl ⊢
  have hl : lv_has ls 3 [(0, .ref (h 0)), (1, .int n0), (2, .int pl)] := hl
  refine lv_aload_n hx hb dX1_fail_0 rfl (lv_at hl 0 rfl) ?_
  refine va_get (D := gD G) (ci := 1) (v := .int (rd.1 4)) (C := RX1) (T := TX1) (N := 10) hx hb hts hiX1 hown hK hP 0 rfl rfl 4 (by decide) k25 (fun _ h9 => h9) rfl dX1_fail_1 ?_
  refine topE h40 ?_
  refine lv_if_ne (tgt := 17) hx hb dX1_fail_4 (by decide) (fun c9 => absurd (by decide) c9) (fun _ => ?_)
  refine lv_aload_n hx hb dX1_fail_7 rfl (lv_at hl 0 rfl) ?_
  refine lv_iload_n hx hb dX1_fail_8 rfl (lv_at hl 1 rfl) ?_
  refine va_put (D := gD G) (ci := 1) (v := .int n0) (ty := .int) (C := RX1) (T := TX1) (N := 10) hx hb hts hiX1 tyX1 tyX1_ok nmX1 hown hK hP hD hS 0 rfl rfl 4 (by decide) k25 (fun _ h9 => h9) rfl (tyX1_ok 4 (by decide)) (rfl) (rfl) (Nat.le_of_ble_eq_true rfl) dX1_fail_9 (fun H locs hP hD hS => ?_)
  have hP : PP G (rv G h (oI rd 4 n0) w) H := hP
  have hD : va_D A (rv G h (oI rd 4 n0) w) := hD
  refine lv_aload_n hx hb dX1_fail_12 rfl (lv_at hl 0 rfl) ?_
  refine lv_iload_n hx hb dX1_fail_13 rfl (lv_at hl 2 rfl) ?_
  refine va_put (D := gD G) (ci := 1) (v := .int pl) (ty := .int) (C := RX1) (T := TX1) (N := 10) hx hb hts hiX1 tyX1 tyX1_ok nmX1 hown hK hP hD hS 0 rfl rfl 5 (by decide) k28 (fun _ h9 => h9) rfl (tyX1_ok 5 (by decide)) (rfl) (rfl) (Nat.le_of_ble_eq_true rfl) dX1_fail_14 (fun H locs hP hD hS => ?_)
  have hP : PP G (rv G h (oI (oI rd 4 n0) 5 pl) w) H := hP
  have hD : va_D A (rv G h (oI (oI rd 4 n0) 5 pl) w) := hD
  exact W.vret hx hb hr (fun t ht hW => ⟨⟨(oI (oI rd 4 n0) 5 pl, w), rfl, rfl, show PP G (rv G h (oI (oI rd 4 n0) 5 pl) w) t.heap by rw [ht]; exact hP⟩, hS.F ht⟩) hS.2.2 dX1_fail_17
set_option maxHeartbeats 1000000 in
set_option maxRecDepth 100000 in
theorem mt_X1_fail1 (l : Launch) (G : gG) (h : Nat → Nat) (sz : Nat) (rd : oS) (w : oS) (fz : Nat) (n0 : Int32) (pl : Int32) (hfz : rd.1 4 = nI fz) (hfp : 0 < fz) (hfq : fz ≤ 4) : Met l yX1_fail wsX1_fail ({ frames := 0, cells := 0, slots := 0, locals := 0 }) (preW G (rv G h rd w) sz [.ref (h 0), .int n0, .int pl]) (va_Qv (fun (v : oS × oS) => v = (rd, w)) (fun v t => PP G (rv G h v.1 v.2) t.heap) (va_A (rv G h rd w) sz)) 0 0 (va_A (rv G h rd w) sz) := by
  refine Met.ofW (cc := cX1_fail) (maxL := 3) (ret := none) (by decide) rfl ?_
  intro p e s m args below meth c s₁ B hml hv
  obtain ⟨ha, hsz, hP, hK, hN, hD0⟩ := hv
  subst ha
  have hx := B.exec
  have hb := B.bytes
  have hr := B.returns
  have hts := atoms_spec (ws := wsX1_fail) B.pre
  have hown : s.vm.findClass RX1 = some m.cls := findClass_of_methodNamed B.named
  have hlocks := B.notSynchronized
  subst hsz
  have hD := hD0.self (sz := s.heap.size)
  generalize hAe : va_A (rv G h rd w) s.heap.size = A at hD ⊢
  have hA : ∀ q : Nat, s.heap.size ≤ q → A q := fun q h => by rw [← hAe]; exact Or.inr h
  clear hAe hD0
  have hS : va_S A s.heap s.heap [] := va_S.rf
  have hiX1 : ∀ w ∈ wsX10, w ∈ wsX1_fail := fun w h9 => List.mem_cons_of_mem _ (List.mem_append_right _ (h9))
  have k25 := hts (.fieldLink RX1 25 "WovenHistory$Reader" "faultNumber" "I") (List.mem_of_getElem? (i := 1) rfl)
  have k28 := hts (.fieldLink RX1 28 "WovenHistory$Reader" "faultAt" "I") (List.mem_of_getElem? (i := 2) rfl)
  have hl := lv_entry ([.ref (h 0), .int n0, .int pl]) (n := 3) (Nat.le_of_ble_eq_true rfl)
  rw [lg_entry_eq]
  generalize (lg_sl ([.ref (h 0), .int n0, .int pl]) ++ List.replicate (3 - (lg_sl ([.ref (h 0), .int n0, .int pl])).length) Slot.unset).toArray = ls at hl ⊢
  have hl : lv_has ls 3 [(0, .ref (h 0)), (1, .int n0), (2, .int pl)] := hl
  refine lv_aload_n hx hb dX1_fail_0 rfl (lv_at hl 0 rfl) ?_
  refine va_get (D := gD G) (ci := 1) (v := .int (rd.1 4)) (C := RX1) (T := TX1) (N := 10) hx hb hts hiX1 hown hK hP 0 rfl rfl 4 (by decide) k25 (fun _ h9 => h9) rfl dX1_fail_1 ?_
  refine topE hfz ?_
  refine lv_if_ne (tgt := 17) hx hb dX1_fail_4 (by decide) (fun c4 => ?_) (fun c4 => ?_)
  · skip
    have n4 : ¬ (fz = 0) := fun q9 => c4 ((nI_eq (a := fz) (b := 0) (by omega) (by omega)).mpr q9)
    exact W.vret hx hb hr (fun t ht hW => ⟨⟨(rd, w), rfl, rfl, show PP G (rv G h rd w) t.heap by rw [ht]; exact hP⟩, hS.F ht⟩) hS.2.2 dX1_fail_17
  · skip
    have n4 : fz = 0 := (nI_eq (a := fz) (b := 0) (by omega) (by omega)).mp c4
    omega
set_option maxHeartbeats 1000000 in
set_option maxRecDepth 100000 in
theorem mt_X1_nextSign0 (l : Launch) (G : gG) (h : Nat → Nat) (sz : Nat) (rd : oS) (w : oS) (len : Nat) (a0 : Nat) (tx : Nat → Int32) (hlen : rd.1 1 = nI len) (ha0 : rd.1 2 = nI a0) (hl240 : len ≤ 240) (hAn : a0 ≤ len) (htx : rwE (rd.2 0) tx len) (h40 : rd.1 4 = nI 0) : Met l yX1_nextSign wsX1_nextSign ({ frames := 0, cells := 0, slots := 0, locals := 0 }) (preW G (rv G h rd w) sz [.ref (h 0)]) (va_Qi (fun (r : Int32) (v : oS × oS) => v = (oI rd 2 (nI (sk tx len a0)), w) ∧ r = hd tx len (sk tx len a0)) (fun v t => PP G (rv G h v.1 v.2) t.heap) (va_A (rv G h rd w) sz)) 0 0 (va_A (rv G h rd w) sz) := by
  refine Met.ofW (cc := cX1_nextSign) (maxL := 1) (ret := (some .int)) (by decide) rfl ?_
  intro p e s m args below meth c s₁ B hml hv
  obtain ⟨ha, hsz, hP, hK, hN, hD0⟩ := hv
  subst ha
  have hx := B.exec
  have hb := B.bytes
  have hr := B.returns
  have hts := atoms_spec (ws := wsX1_nextSign) B.pre
  have hown : s.vm.findClass RX1 = some m.cls := findClass_of_methodNamed B.named
  have hlocks := B.notSynchronized
  subst hsz
  have hD := hD0.self (sz := s.heap.size)
  generalize hAe : va_A (rv G h rd w) s.heap.size = A at hD ⊢
  have hA : ∀ q : Nat, s.heap.size ≤ q → A q := fun q h => by rw [← hAe]; exact Or.inr h
  clear hAe hD0
  have hS : va_S A s.heap s.heap [] := va_S.rf
  have hiX1 : ∀ w ∈ wsX10, w ∈ wsX1_nextSign := fun w h9 => List.mem_cons_of_mem _ (List.mem_append_right _ (h9))
  have k19 := hts (.fieldLink RX1 19 "WovenHistory$Reader" "at" "I") (List.mem_of_getElem? (i := 1) rfl)
  have k15 := hts (.fieldLink RX1 15 "WovenHistory$Reader" "length" "I") (List.mem_of_getElem? (i := 2) rfl)
  have k9 := hts (.fieldLink RX1 9 "WovenHistory$Reader" "letters" "[I") (List.mem_of_getElem? (i := 3) rfl)
  have k25 := hts (.fieldLink RX1 25 "WovenHistory$Reader" "faultNumber" "I") (List.mem_of_getElem? (i := 4) rfl)
  have hl := lv_entry ([.ref (h 0)]) (n := 1) (Nat.le_of_ble_eq_true rfl)
  rw [lg_entry_eq]
  generalize (lg_sl ([.ref (h 0)]) ++ List.replicate (1 - (lg_sl ([.ref (h 0)])).length) Slot.unset).toArray = ls at hl ⊢
  have hl : lv_has ls 1 [(0, .ref (h 0))] := hl
  have hP : PP G (rv G h (oI rd 2 (nI a0)) w) s.heap := by rw [oI_self ha0]; exact hP
  have hD : va_D A (rv G h (oI rd 2 (nI a0)) w) := by rw [oI_self ha0]; exact hD
  have LP0 : ∀ (n0m : Nat), ∀ (b : Nat) (hab : a0 ≤ b) (hbn : b ≤ len) (hsk : sk tx len b = sk tx len a0), (len - b < n0m) → ∀ (H : Heap) (locs : List Loc) (ls : Array Slot), PP G (rv G h (oI rd 2 (nI b)) w) H → va_D A (rv G h (oI rd 2 (nI b)) w) → va_S A s.heap H locs → lv_has ls 1 [(0, .ref (h 0))] → W p l e (headSpec wsX1_nextSign ({ frames := 0, cells := 0, slots := 0, locals := 0 })).room s m ([.ref (h 0)] : List Value).toArray below meth c H locs 0 0 (MQ below (va_Qi (fun (r : Int32) (v : oS × oS) => v = (oI rd 2 (nI (sk tx len a0)), w) ∧ r = hd tx len (sk tx len a0)) (fun v t => PP G (rv G h v.1 v.2) t.heap) A) ([.ref (h 0)] : List Value).toArray s 0 0 A) (F0 m 0 ls []) := by
    intro n0m
    induction n0m with
    | zero => intro b hab hbn hsk hmu H locs ls hP hD hS hl; exact absurd hmu (Nat.not_lt_zero _)
    | succ n0m ih0 =>
      intro b hab hbn hsk hmu H locs ls hP hD hS hl
      refine lv_aload_n hx hb dX1_nextSign_0 rfl (lv_at hl 0 rfl) ?_
      refine va_get (D := gD G) (ci := 1) (v := .int (nI b)) (C := RX1) (T := TX1) (N := 10) hx hb hts hiX1 hown hK hP 0 rfl rfl 2 (by decide) k19 (fun _ h9 => h9) rfl dX1_nextSign_1 ?_
      refine lv_aload_n hx hb dX1_nextSign_4 rfl (lv_at hl 0 rfl) ?_
      refine va_get (D := gD G) (ci := 1) (v := .int (rd.1 1)) (C := RX1) (T := TX1) (N := 10) hx hb hts hiX1 hown hK hP 0 rfl rfl 1 (by decide) k15 (fun _ h9 => h9) rfl dX1_nextSign_5 ?_
      refine topE hlen ?_
      refine lv_icmp_ge (tgt := 38) hx hb dX1_nextSign_8 (by decide) (fun c8 => ?_) (fun c8 => ?_)
      · skip
        have n8 : len ≤ b := (nI_leI (a := len) (b := b) (by omega) (by omega)).mp c8
        have hq : sk tx len a0 = b := rn_eq hsk (by first | exact fun q => absurd q.1 (by omega) | exact fun q => absurd q.2 (isB_f (by assumption)))
        refine lv_aload_n hx hb dX1_nextSign_38 rfl (lv_at hl 0 rfl) ?_
        refine va_get (D := gD G) (ci := 1) (v := .int (nI b)) (C := RX1) (T := TX1) (N := 10) hx hb hts hiX1 hown hK hP 0 rfl rfl 2 (by decide) k19 (fun _ h9 => h9) rfl dX1_nextSign_39 ?_
        refine lv_aload_n hx hb dX1_nextSign_42 rfl (lv_at hl 0 rfl) ?_
        refine va_get (D := gD G) (ci := 1) (v := .int (rd.1 1)) (C := RX1) (T := TX1) (N := 10) hx hb hts hiX1 hown hK hP 0 rfl rfl 1 (by decide) k15 (fun _ h9 => h9) rfl dX1_nextSign_43 ?_
        refine topE hlen ?_
        refine lv_icmp_ge (tgt := 68) hx hb dX1_nextSign_46 (by decide) (fun c46 => ?_) (fun c46 => ?_)
        · skip
          have n46 : len ≤ b := (nI_leI (a := len) (b := b) (by omega) (by omega)).mp c46
          refine lv_iconst (v := (-1 : Int32)) hx hb dX1_nextSign_68 (by decide) ?_
          exact W.iret (v := (-1 : Int32)) hx hb hr (fun t ht hW => ⟨⟨(-1 : Int32), (oI rd 2 (nI b), w), rfl, ⟨by rw [hq], by rw [hq, hd_out (by omega)]⟩, show PP G (rv G h (oI rd 2 (nI b)) w) t.heap by rw [ht]; exact hP⟩, hS.F ht⟩) hS.2.2 dX1_nextSign_69
        · skip
          have n46 : ¬ (len ≤ b) := fun q9 => c46 ((nI_leI (a := len) (b := b) (by omega) (by omega)).mpr q9)
          refine lv_aload_n hx hb dX1_nextSign_49 rfl (lv_at hl 0 rfl) ?_
          refine va_get (D := gD G) (ci := 1) (v := .int (rd.1 4)) (C := RX1) (T := TX1) (N := 10) hx hb hts hiX1 hown hK hP 0 rfl rfl 4 (by decide) k25 (fun _ h9 => h9) rfl dX1_nextSign_50 ?_
          refine topE h40 ?_
          refine lv_if_ne (tgt := 68) hx hb dX1_nextSign_53 (by decide) (fun c9 => absurd (by decide) c9) (fun _ => ?_)
          refine lv_aload_n hx hb dX1_nextSign_56 rfl (lv_at hl 0 rfl) ?_
          refine va_get (D := gD G) (ci := 1) (v := .ref (h 1)) (C := RX1) (T := TX1) (N := 10) hx hb hts hiX1 hown hK hP 0 rfl rfl 0 (by decide) k9 (fun _ h9 => h9) rfl dX1_nextSign_57 ?_
          refine lv_aload_n hx hb dX1_nextSign_60 rfl (lv_at hl 0 rfl) ?_
          refine va_get (D := gD G) (ci := 1) (v := .int (nI b)) (C := RX1) (T := TX1) (N := 10) hx hb hts hiX1 hown hK hP 0 rfl rfl 2 (by decide) k19 (fun _ h9 => h9) rfl dX1_nextSign_61 ?_
          refine ialdN (f := rd.2 0) (n := 240) (k := b) hx hb hK hP 1 rfl rfl (by omega) dX1_nextSign_64 ?_
          refine topE (htx b (by omega)) ?_
          refine lv_goto (tgt := 69) hx hb dX1_nextSign_65 (by decide) ?_
          exact W.iret (v := tx b) hx hb hr (fun t ht hW => ⟨⟨tx b, (oI rd 2 (nI b), w), rfl, ⟨by rw [hq], by rw [hq, hd_in (by omega)]⟩, show PP G (rv G h (oI rd 2 (nI b)) w) t.heap by rw [ht]; exact hP⟩, hS.F ht⟩) hS.2.2 dX1_nextSign_69
      · skip
        have n8 : ¬ (len ≤ b) := fun q9 => c8 ((nI_leI (a := len) (b := b) (by omega) (by omega)).mpr q9)
        refine lv_aload_n hx hb dX1_nextSign_11 rfl (lv_at hl 0 rfl) ?_
        refine va_get (D := gD G) (ci := 1) (v := .ref (h 1)) (C := RX1) (T := TX1) (N := 10) hx hb hts hiX1 hown hK hP 0 rfl rfl 0 (by decide) k9 (fun _ h9 => h9) rfl dX1_nextSign_12 ?_
        refine lv_aload_n hx hb dX1_nextSign_15 rfl (lv_at hl 0 rfl) ?_
        refine va_get (D := gD G) (ci := 1) (v := .int (nI b)) (C := RX1) (T := TX1) (N := 10) hx hb hts hiX1 hown hK hP 0 rfl rfl 2 (by decide) k19 (fun _ h9 => h9) rfl dX1_nextSign_16 ?_
        refine ialdN (f := rd.2 0) (n := 240) (k := b) hx hb hK hP 1 rfl rfl (by omega) dX1_nextSign_19 ?_
        refine topE (htx b (by omega)) ?_
        refine lv_bipush (v := nI 32) hx hb dX1_nextSign_20 (by decide) ?_
        refine lv_icmp_ne (tgt := 38) hx hb dX1_nextSign_22 (by decide) (fun c22 => ?_) (fun c22 => ?_)
        · skip
          have hq : sk tx len a0 = b := rn_eq hsk (by first | exact fun q => absurd q.1 (by omega) | exact fun q => absurd q.2 (isB_f (by assumption)))
          refine lv_aload_n hx hb dX1_nextSign_38 rfl (lv_at hl 0 rfl) ?_
          refine va_get (D := gD G) (ci := 1) (v := .int (nI b)) (C := RX1) (T := TX1) (N := 10) hx hb hts hiX1 hown hK hP 0 rfl rfl 2 (by decide) k19 (fun _ h9 => h9) rfl dX1_nextSign_39 ?_
          refine lv_aload_n hx hb dX1_nextSign_42 rfl (lv_at hl 0 rfl) ?_
          refine va_get (D := gD G) (ci := 1) (v := .int (rd.1 1)) (C := RX1) (T := TX1) (N := 10) hx hb hts hiX1 hown hK hP 0 rfl rfl 1 (by decide) k15 (fun _ h9 => h9) rfl dX1_nextSign_43 ?_
          refine topE hlen ?_
          refine lv_icmp_ge (tgt := 68) hx hb dX1_nextSign_46 (by decide) (fun c46 => ?_) (fun c46 => ?_)
          · skip
            have n46 : len ≤ b := (nI_leI (a := len) (b := b) (by omega) (by omega)).mp c46
            refine lv_iconst (v := (-1 : Int32)) hx hb dX1_nextSign_68 (by decide) ?_
            exact W.iret (v := (-1 : Int32)) hx hb hr (fun t ht hW => ⟨⟨(-1 : Int32), (oI rd 2 (nI b), w), rfl, ⟨by rw [hq], by rw [hq, hd_out (by omega)]⟩, show PP G (rv G h (oI rd 2 (nI b)) w) t.heap by rw [ht]; exact hP⟩, hS.F ht⟩) hS.2.2 dX1_nextSign_69
          · skip
            have n46 : ¬ (len ≤ b) := fun q9 => c46 ((nI_leI (a := len) (b := b) (by omega) (by omega)).mpr q9)
            refine lv_aload_n hx hb dX1_nextSign_49 rfl (lv_at hl 0 rfl) ?_
            refine va_get (D := gD G) (ci := 1) (v := .int (rd.1 4)) (C := RX1) (T := TX1) (N := 10) hx hb hts hiX1 hown hK hP 0 rfl rfl 4 (by decide) k25 (fun _ h9 => h9) rfl dX1_nextSign_50 ?_
            refine topE h40 ?_
            refine lv_if_ne (tgt := 68) hx hb dX1_nextSign_53 (by decide) (fun c9 => absurd (by decide) c9) (fun _ => ?_)
            refine lv_aload_n hx hb dX1_nextSign_56 rfl (lv_at hl 0 rfl) ?_
            refine va_get (D := gD G) (ci := 1) (v := .ref (h 1)) (C := RX1) (T := TX1) (N := 10) hx hb hts hiX1 hown hK hP 0 rfl rfl 0 (by decide) k9 (fun _ h9 => h9) rfl dX1_nextSign_57 ?_
            refine lv_aload_n hx hb dX1_nextSign_60 rfl (lv_at hl 0 rfl) ?_
            refine va_get (D := gD G) (ci := 1) (v := .int (nI b)) (C := RX1) (T := TX1) (N := 10) hx hb hts hiX1 hown hK hP 0 rfl rfl 2 (by decide) k19 (fun _ h9 => h9) rfl dX1_nextSign_61 ?_
            refine ialdN (f := rd.2 0) (n := 240) (k := b) hx hb hK hP 1 rfl rfl (by omega) dX1_nextSign_64 ?_
            refine topE (htx b (by omega)) ?_
            refine lv_goto (tgt := 69) hx hb dX1_nextSign_65 (by decide) ?_
            exact W.iret (v := tx b) hx hb hr (fun t ht hW => ⟨⟨tx b, (oI rd 2 (nI b), w), rfl, ⟨by rw [hq], by rw [hq, hd_in (by omega)]⟩, show PP G (rv G h (oI rd 2 (nI b)) w) t.heap by rw [ht]; exact hP⟩, hS.F ht⟩) hS.2.2 dX1_nextSign_69
        · skip
          refine lv_aload_n hx hb dX1_nextSign_25 rfl (lv_at hl 0 rfl) ?_
          refine lv_dup hx hb dX1_nextSign_26 rfl ?_
          refine va_get (D := gD G) (ci := 1) (v := .int (nI b)) (C := RX1) (T := TX1) (N := 10) hx hb hts hiX1 hown hK hP 0 rfl rfl 2 (by decide) k19 (fun _ h9 => h9) rfl dX1_nextSign_27 ?_
          refine lv_iconst (v := nI 1) hx hb dX1_nextSign_30 (by decide) ?_
          refine lv_iadd hx hb dX1_nextSign_31 ?_
          refine topE (y := nI (b + 1)) (nI_add b 1) ?_
          refine va_put (D := gD G) (ci := 1) (v := .int (nI (b + 1))) (ty := .int) (C := RX1) (T := TX1) (N := 10) hx hb hts hiX1 tyX1 tyX1_ok nmX1 hown hK hP hD hS 0 rfl rfl 2 (by decide) k19 (fun _ h9 => h9) rfl (tyX1_ok 2 (by decide)) (rfl) (rfl) (Nat.le_of_ble_eq_true rfl) dX1_nextSign_32 (fun H locs hP hD hS => ?_)
          have hP : PP G (rv G h (oI (oI rd 2 (nI b)) 2 (nI (b + 1))) w) H := hP
          have hD : va_D A (rv G h (oI (oI rd 2 (nI b)) 2 (nI (b + 1))) w) := hD
          refine lv_goto (tgt := 0) hx hb dX1_nextSign_35 (by decide) ?_
          exact ih0 (b + 1) (by first | assumption | omega) (by first | assumption | omega) ((rn_s (by omega) (isB_t c22)).trans hsk) (by omega) _ _ ls hP hD hS (lv_sub hl [0] rfl)
  exact LP0 (len - a0 + 1) a0 (by first | assumption | omega) (by first | assumption | omega) (rfl) (Nat.lt_succ_self _) _ _ ls hP hD hS (lv_sub hl [0] rfl)
set_option maxHeartbeats 1000000 in
set_option maxRecDepth 100000 in
theorem mt_X1_nextSign1 (l : Launch) (G : gG) (h : Nat → Nat) (sz : Nat) (rd : oS) (w : oS) (len : Nat) (a0 : Nat) (fz : Nat) (tx : Nat → Int32) (hlen : rd.1 1 = nI len) (ha0 : rd.1 2 = nI a0) (hfz : rd.1 4 = nI fz) (hl240 : len ≤ 240) (hAn : a0 ≤ len) (htx : rwE (rd.2 0) tx len) (hfp : 0 < fz) (hfq : fz ≤ 4) : Met l yX1_nextSign wsX1_nextSign ({ frames := 0, cells := 0, slots := 0, locals := 0 }) (preW G (rv G h rd w) sz [.ref (h 0)]) (va_Qi (fun (r : Int32) (v : oS × oS) => v = (oI rd 2 (nI (sk tx len a0)), w) ∧ r = -1) (fun v t => PP G (rv G h v.1 v.2) t.heap) (va_A (rv G h rd w) sz)) 0 0 (va_A (rv G h rd w) sz) := by
  refine Met.ofW (cc := cX1_nextSign) (maxL := 1) (ret := (some .int)) (by decide) rfl ?_
  intro p e s m args below meth c s₁ B hml hv
  obtain ⟨ha, hsz, hP, hK, hN, hD0⟩ := hv
  subst ha
  have hx := B.exec
  have hb := B.bytes
  have hr := B.returns
  have hts := atoms_spec (ws := wsX1_nextSign) B.pre
  have hown : s.vm.findClass RX1 = some m.cls := findClass_of_methodNamed B.named
  have hlocks := B.notSynchronized
  subst hsz
  have hD := hD0.self (sz := s.heap.size)
  generalize hAe : va_A (rv G h rd w) s.heap.size = A at hD ⊢
  have hA : ∀ q : Nat, s.heap.size ≤ q → A q := fun q h => by rw [← hAe]; exact Or.inr h
  clear hAe hD0
  have hS : va_S A s.heap s.heap [] := va_S.rf
  have hiX1 : ∀ w ∈ wsX10, w ∈ wsX1_nextSign := fun w h9 => List.mem_cons_of_mem _ (List.mem_append_right _ (h9))
  have k19 := hts (.fieldLink RX1 19 "WovenHistory$Reader" "at" "I") (List.mem_of_getElem? (i := 1) rfl)
  have k15 := hts (.fieldLink RX1 15 "WovenHistory$Reader" "length" "I") (List.mem_of_getElem? (i := 2) rfl)
  have k9 := hts (.fieldLink RX1 9 "WovenHistory$Reader" "letters" "[I") (List.mem_of_getElem? (i := 3) rfl)
  have k25 := hts (.fieldLink RX1 25 "WovenHistory$Reader" "faultNumber" "I") (List.mem_of_getElem? (i := 4) rfl)
  have hl := lv_entry ([.ref (h 0)]) (n := 1) (Nat.le_of_ble_eq_true rfl)
  rw [lg_entry_eq]
  generalize (lg_sl ([.ref (h 0)]) ++ List.replicate (1 - (lg_sl ([.ref (h 0)])).length) Slot.unset).toArray = ls at hl ⊢
  have hl : lv_has ls 1 [(0, .ref (h 0))] := hl
  have hP : PP G (rv G h (oI rd 2 (nI a0)) w) s.heap := by rw [oI_self ha0]; exact hP
  have hD : va_D A (rv G h (oI rd 2 (nI a0)) w) := by rw [oI_self ha0]; exact hD
  have LP0 : ∀ (n0m : Nat), ∀ (b : Nat) (hab : a0 ≤ b) (hbn : b ≤ len) (hsk : sk tx len b = sk tx len a0), (len - b < n0m) → ∀ (H : Heap) (locs : List Loc) (ls : Array Slot), PP G (rv G h (oI rd 2 (nI b)) w) H → va_D A (rv G h (oI rd 2 (nI b)) w) → va_S A s.heap H locs → lv_has ls 1 [(0, .ref (h 0))] → W p l e (headSpec wsX1_nextSign ({ frames := 0, cells := 0, slots := 0, locals := 0 })).room s m ([.ref (h 0)] : List Value).toArray below meth c H locs 0 0 (MQ below (va_Qi (fun (r : Int32) (v : oS × oS) => v = (oI rd 2 (nI (sk tx len a0)), w) ∧ r = -1) (fun v t => PP G (rv G h v.1 v.2) t.heap) A) ([.ref (h 0)] : List Value).toArray s 0 0 A) (F0 m 0 ls []) := by
    intro n0m
    induction n0m with
    | zero => intro b hab hbn hsk hmu H locs ls hP hD hS hl; exact absurd hmu (Nat.not_lt_zero _)
    | succ n0m ih0 =>
      intro b hab hbn hsk hmu H locs ls hP hD hS hl
      refine lv_aload_n hx hb dX1_nextSign_0 rfl (lv_at hl 0 rfl) ?_
      refine va_get (D := gD G) (ci := 1) (v := .int (nI b)) (C := RX1) (T := TX1) (N := 10) hx hb hts hiX1 hown hK hP 0 rfl rfl 2 (by decide) k19 (fun _ h9 => h9) rfl dX1_nextSign_1 ?_
      refine lv_aload_n hx hb dX1_nextSign_4 rfl (lv_at hl 0 rfl) ?_
      refine va_get (D := gD G) (ci := 1) (v := .int (rd.1 1)) (C := RX1) (T := TX1) (N := 10) hx hb hts hiX1 hown hK hP 0 rfl rfl 1 (by decide) k15 (fun _ h9 => h9) rfl dX1_nextSign_5 ?_
      refine topE hlen ?_
      refine lv_icmp_ge (tgt := 38) hx hb dX1_nextSign_8 (by decide) (fun c8 => ?_) (fun c8 => ?_)
      · skip
        have n8 : len ≤ b := (nI_leI (a := len) (b := b) (by omega) (by omega)).mp c8
        have hq : sk tx len a0 = b := rn_eq hsk (by first | exact fun q => absurd q.1 (by omega) | exact fun q => absurd q.2 (isB_f (by assumption)))
        refine lv_aload_n hx hb dX1_nextSign_38 rfl (lv_at hl 0 rfl) ?_
        refine va_get (D := gD G) (ci := 1) (v := .int (nI b)) (C := RX1) (T := TX1) (N := 10) hx hb hts hiX1 hown hK hP 0 rfl rfl 2 (by decide) k19 (fun _ h9 => h9) rfl dX1_nextSign_39 ?_
        refine lv_aload_n hx hb dX1_nextSign_42 rfl (lv_at hl 0 rfl) ?_
        refine va_get (D := gD G) (ci := 1) (v := .int (rd.1 1)) (C := RX1) (T := TX1) (N := 10) hx hb hts hiX1 hown hK hP 0 rfl rfl 1 (by decide) k15 (fun _ h9 => h9) rfl dX1_nextSign_43 ?_
        refine topE hlen ?_
        refine lv_icmp_ge (tgt := 68) hx hb dX1_nextSign_46 (by decide) (fun c46 => ?_) (fun c46 => ?_)
        · skip
          have n46 : len ≤ b := (nI_leI (a := len) (b := b) (by omega) (by omega)).mp c46
          refine lv_iconst (v := (-1 : Int32)) hx hb dX1_nextSign_68 (by decide) ?_
          exact W.iret (v := (-1 : Int32)) hx hb hr (fun t ht hW => ⟨⟨(-1 : Int32), (oI rd 2 (nI b), w), rfl, ⟨by rw [hq], rfl⟩, show PP G (rv G h (oI rd 2 (nI b)) w) t.heap by rw [ht]; exact hP⟩, hS.F ht⟩) hS.2.2 dX1_nextSign_69
        · skip
          have n46 : ¬ (len ≤ b) := fun q9 => c46 ((nI_leI (a := len) (b := b) (by omega) (by omega)).mpr q9)
          refine lv_aload_n hx hb dX1_nextSign_49 rfl (lv_at hl 0 rfl) ?_
          refine va_get (D := gD G) (ci := 1) (v := .int (rd.1 4)) (C := RX1) (T := TX1) (N := 10) hx hb hts hiX1 hown hK hP 0 rfl rfl 4 (by decide) k25 (fun _ h9 => h9) rfl dX1_nextSign_50 ?_
          refine topE hfz ?_
          refine lv_if_ne (tgt := 68) hx hb dX1_nextSign_53 (by decide) (fun c53 => ?_) (fun c53 => ?_)
          · skip
            have n53 : ¬ (fz = 0) := fun q9 => c53 ((nI_eq (a := fz) (b := 0) (by omega) (by omega)).mpr q9)
            refine lv_iconst (v := (-1 : Int32)) hx hb dX1_nextSign_68 (by decide) ?_
            exact W.iret (v := (-1 : Int32)) hx hb hr (fun t ht hW => ⟨⟨(-1 : Int32), (oI rd 2 (nI b), w), rfl, ⟨by rw [hq], rfl⟩, show PP G (rv G h (oI rd 2 (nI b)) w) t.heap by rw [ht]; exact hP⟩, hS.F ht⟩) hS.2.2 dX1_nextSign_69
          · skip
            have n53 : fz = 0 := (nI_eq (a := fz) (b := 0) (by omega) (by omega)).mp c53
            omega
      · skip
        have n8 : ¬ (len ≤ b) := fun q9 => c8 ((nI_leI (a := len) (b := b) (by omega) (by omega)).mpr q9)
        refine lv_aload_n hx hb dX1_nextSign_11 rfl (lv_at hl 0 rfl) ?_
        refine va_get (D := gD G) (ci := 1) (v := .ref (h 1)) (C := RX1) (T := TX1) (N := 10) hx hb hts hiX1 hown hK hP 0 rfl rfl 0 (by decide) k9 (fun _ h9 => h9) rfl dX1_nextSign_12 ?_
        refine lv_aload_n hx hb dX1_nextSign_15 rfl (lv_at hl 0 rfl) ?_
        refine va_get (D := gD G) (ci := 1) (v := .int (nI b)) (C := RX1) (T := TX1) (N := 10) hx hb hts hiX1 hown hK hP 0 rfl rfl 2 (by decide) k19 (fun _ h9 => h9) rfl dX1_nextSign_16 ?_
        refine ialdN (f := rd.2 0) (n := 240) (k := b) hx hb hK hP 1 rfl rfl (by omega) dX1_nextSign_19 ?_
        refine topE (htx b (by omega)) ?_
        refine lv_bipush (v := nI 32) hx hb dX1_nextSign_20 (by decide) ?_
        refine lv_icmp_ne (tgt := 38) hx hb dX1_nextSign_22 (by decide) (fun c22 => ?_) (fun c22 => ?_)
        · skip
          have hq : sk tx len a0 = b := rn_eq hsk (by first | exact fun q => absurd q.1 (by omega) | exact fun q => absurd q.2 (isB_f (by assumption)))
          refine lv_aload_n hx hb dX1_nextSign_38 rfl (lv_at hl 0 rfl) ?_
          refine va_get (D := gD G) (ci := 1) (v := .int (nI b)) (C := RX1) (T := TX1) (N := 10) hx hb hts hiX1 hown hK hP 0 rfl rfl 2 (by decide) k19 (fun _ h9 => h9) rfl dX1_nextSign_39 ?_
          refine lv_aload_n hx hb dX1_nextSign_42 rfl (lv_at hl 0 rfl) ?_
          refine va_get (D := gD G) (ci := 1) (v := .int (rd.1 1)) (C := RX1) (T := TX1) (N := 10) hx hb hts hiX1 hown hK hP 0 rfl rfl 1 (by decide) k15 (fun _ h9 => h9) rfl dX1_nextSign_43 ?_
          refine topE hlen ?_
          refine lv_icmp_ge (tgt := 68) hx hb dX1_nextSign_46 (by decide) (fun c46 => ?_) (fun c46 => ?_)
          · skip
            have n46 : len ≤ b := (nI_leI (a := len) (b := b) (by omega) (by omega)).mp c46
            refine lv_iconst (v := (-1 : Int32)) hx hb dX1_nextSign_68 (by decide) ?_
            exact W.iret (v := (-1 : Int32)) hx hb hr (fun t ht hW => ⟨⟨(-1 : Int32), (oI rd 2 (nI b), w), rfl, ⟨by rw [hq], rfl⟩, show PP G (rv G h (oI rd 2 (nI b)) w) t.heap by rw [ht]; exact hP⟩, hS.F ht⟩) hS.2.2 dX1_nextSign_69
          · skip
            have n46 : ¬ (len ≤ b) := fun q9 => c46 ((nI_leI (a := len) (b := b) (by omega) (by omega)).mpr q9)
            refine lv_aload_n hx hb dX1_nextSign_49 rfl (lv_at hl 0 rfl) ?_
            refine va_get (D := gD G) (ci := 1) (v := .int (rd.1 4)) (C := RX1) (T := TX1) (N := 10) hx hb hts hiX1 hown hK hP 0 rfl rfl 4 (by decide) k25 (fun _ h9 => h9) rfl dX1_nextSign_50 ?_
            refine topE hfz ?_
            refine lv_if_ne (tgt := 68) hx hb dX1_nextSign_53 (by decide) (fun c53 => ?_) (fun c53 => ?_)
            · skip
              have n53 : ¬ (fz = 0) := fun q9 => c53 ((nI_eq (a := fz) (b := 0) (by omega) (by omega)).mpr q9)
              refine lv_iconst (v := (-1 : Int32)) hx hb dX1_nextSign_68 (by decide) ?_
              exact W.iret (v := (-1 : Int32)) hx hb hr (fun t ht hW => ⟨⟨(-1 : Int32), (oI rd 2 (nI b), w), rfl, ⟨by rw [hq], rfl⟩, show PP G (rv G h (oI rd 2 (nI b)) w) t.heap by rw [ht]; exact hP⟩, hS.F ht⟩) hS.2.2 dX1_nextSign_69
            · skip
              have n53 : fz = 0 := (nI_eq (a := fz) (b := 0) (by omega) (by omega)).mp c53
              omega
        · skip
          refine lv_aload_n hx hb dX1_nextSign_25 rfl (lv_at hl 0 rfl) ?_
          refine lv_dup hx hb dX1_nextSign_26 rfl ?_
          refine va_get (D := gD G) (ci := 1) (v := .int (nI b)) (C := RX1) (T := TX1) (N := 10) hx hb hts hiX1 hown hK hP 0 rfl rfl 2 (by decide) k19 (fun _ h9 => h9) rfl dX1_nextSign_27 ?_
          refine lv_iconst (v := nI 1) hx hb dX1_nextSign_30 (by decide) ?_
          refine lv_iadd hx hb dX1_nextSign_31 ?_
          refine topE (y := nI (b + 1)) (nI_add b 1) ?_
          refine va_put (D := gD G) (ci := 1) (v := .int (nI (b + 1))) (ty := .int) (C := RX1) (T := TX1) (N := 10) hx hb hts hiX1 tyX1 tyX1_ok nmX1 hown hK hP hD hS 0 rfl rfl 2 (by decide) k19 (fun _ h9 => h9) rfl (tyX1_ok 2 (by decide)) (rfl) (rfl) (Nat.le_of_ble_eq_true rfl) dX1_nextSign_32 (fun H locs hP hD hS => ?_)
          have hP : PP G (rv G h (oI (oI rd 2 (nI b)) 2 (nI (b + 1))) w) H := hP
          have hD : va_D A (rv G h (oI (oI rd 2 (nI b)) 2 (nI (b + 1))) w) := hD
          refine lv_goto (tgt := 0) hx hb dX1_nextSign_35 (by decide) ?_
          exact ih0 (b + 1) (by first | assumption | omega) (by first | assumption | omega) ((rn_s (by omega) (isB_t c22)).trans hsk) (by omega) _ _ ls hP hD hS (lv_sub hl [0] rfl)
  exact LP0 (len - a0 + 1) a0 (by first | assumption | omega) (by first | assumption | omega) (rfl) (Nat.lt_succ_self _) _ _ ls hP hD hS (lv_sub hl [0] rfl)
set_option maxHeartbeats 1000000 in
set_option maxRecDepth 100000 in
theorem mt_X1_expect0 (l : Launch) (G : gG) (h : Nat → Nat) (sz : Nat) (rd : oS) (w : oS) (len : Nat) (a0 : Nat) (tx : Nat → Int32) (x : Int32) (hlen : rd.1 1 = nI len) (ha0 : rd.1 2 = nI a0) (hl240 : len ≤ 240) (hAn : a0 ≤ len) (htx : rwE (rd.2 0) tx len) (h40 : rd.1 4 = nI 0) (hxm : ¬ x = -1) : Met l yX1_expect wsX1_expect ({ frames := 1, cells := 0, slots := 0, locals := 22 }) (preW G (rv G h rd w) sz [.ref (h 0), .int x]) (va_Qv (fun (v : oS × oS) => (hd tx len (sk tx len a0) = x ∧ v = (oI rd 2 (nI (sk tx len a0 + 1)), w)) ∨ (¬ hd tx len (sk tx len a0) = x ∧ v = (oI (oI (oI rd 2 (nI (sk tx len a0))) 4 (nI 1)) 5 (nI (sk tx len a0)), w))) (fun v t => PP G (rv G h v.1 v.2) t.heap) (va_A (rv G h rd w) sz)) 0 0 (va_A (rv G h rd w) sz) := by
  refine Met.ofW (cc := cX1_expect) (maxL := 2) (ret := none) (by decide) rfl ?_
  intro p e s m args below meth c s₁ B hml hv
  obtain ⟨ha, hsz, hP, hK, hN, hD0⟩ := hv
  subst ha
  have hx := B.exec
  have hb := B.bytes
  have hr := B.returns
  have hts := atoms_spec (ws := wsX1_expect) B.pre
  have hown : s.vm.findClass RX1 = some m.cls := findClass_of_methodNamed B.named
  have hlocks := B.notSynchronized
  subst hsz
  have hD := hD0.self (sz := s.heap.size)
  generalize hAe : va_A (rv G h rd w) s.heap.size = A at hD ⊢
  have hA : ∀ q : Nat, s.heap.size ≤ q → A q := fun q h => by rw [← hAe]; exact Or.inr h
  clear hAe hD0
  have hS : va_S A s.heap s.heap [] := va_S.rf
  have hiX1 : ∀ w ∈ wsX10, w ∈ wsX1_expect := fun w h9 => List.mem_cons_of_mem _ (List.mem_append_right _ (h9))
  have k19 := hts (.fieldLink RX1 19 "WovenHistory$Reader" "at" "I") (List.mem_of_getElem? (i := 1) rfl)
  have hl := lv_entry ([.ref (h 0), .int x]) (n := 2) (Nat.le_of_ble_eq_true rfl)
  rw [lg_entry_eq]
  generalize (lg_sl ([.ref (h 0), .int x]) ++ List.replicate (2 - (lg_sl ([.ref (h 0), .int x])).length) Slot.unset).toArray = ls at hl ⊢
  have hl : lv_has ls 2 [(0, .ref (h 0)), (1, .int x)] := hl
  refine lv_aload_n hx hb dX1_expect_0 rfl (lv_at hl 0 rfl) ?_
  refine cXi (As := []) (rest := []) (S := oS × oS) (wa := rv G h rd w) (w1 := fun v => rv G h v.1 v.2) ⟨hx, hb, hml, hown, hts⟩ (mt_X1_nextSign0 l G h _ rd w len a0 tx (hlen) (ha0) (by first | assumption | omega) (by first | assumption | omega) (htx) (h40)) (cwV 0 hts gX1_expect_X1_nextSign rfl rfl rfl ⟨rfl, hd_X1_nextSign⟩ ⟨Nat.le_of_ble_eq_true rfl, Nat.le_of_ble_eq_true rfl⟩) hK hN hP hD hS hA (fun _ => rfl) 0 1 rfl rfl rfl hl.1 rfl (Nat.le_of_ble_eq_true rfl) ⟨Nat.zero_le _, Nat.zero_le _⟩ dX1_expect_1 (fun r1 u1 H locs hw1 hP hD hS => ?_)
  obtain ⟨rfl, rfl⟩ := hw1
  have hP : PP G (rv G h (oI rd 2 (nI (sk tx len a0))) w) H := hP
  have hD : va_D A (rv G h (oI rd 2 (nI (sk tx len a0))) w) := hD
  have hge1 : a0 ≤ sk tx len a0 := rn_ge _
  have hle1 : sk tx len a0 ≤ len := rn_le (by omega)
  refine lv_iload_n hx hb dX1_expect_4 rfl (lv_at hl 1 rfl) ?_
  refine lv_icmp_ne (tgt := 21) hx hb dX1_expect_5 (by decide) (fun c5 => ?_) (fun c5 => ?_)
  · skip
    refine lv_aload_n hx hb dX1_expect_21 rfl (lv_at hl 0 rfl) ?_
    refine lv_iconst (v := nI 1) hx hb dX1_expect_22 (by decide) ?_
    refine lv_aload_n hx hb dX1_expect_23 rfl (lv_at hl 0 rfl) ?_
    refine va_get (D := gD G) (ci := 1) (v := .int (nI (sk tx len a0))) (C := RX1) (T := TX1) (N := 10) hx hb hts hiX1 hown hK hP 0 rfl rfl 2 (by decide) k19 (fun _ h9 => h9) rfl dX1_expect_24 ?_
    refine cXv (As := [.int (nI 1), .int (nI (sk tx len a0))]) (rest := []) (S := oS × oS) (wa := rv G h (oI rd 2 (nI (sk tx len a0))) w) (w1 := fun v => rv G h v.1 v.2) ⟨hx, hb, hml, hown, hts⟩ (mt_X1_fail0 l G h _ (oI rd 2 (nI (sk tx len a0))) w (nI 1) (nI (sk tx len a0)) (h40)) (cwV 2 hts gX1_expect_X1_fail rfl rfl rfl ⟨rfl, hd_X1_fail⟩ ⟨Nat.le_of_ble_eq_true rfl, Nat.le_of_ble_eq_true rfl⟩) hK hN hP hD hS hA (fun _ => rfl) 0 1 rfl rfl rfl hl.1 rfl (Nat.le_of_ble_eq_true rfl) ⟨Nat.zero_le _, Nat.zero_le _⟩ dX1_expect_27 (fun u27 H locs hw27 hP hD hS => ?_)
    obtain rfl := hw27
    have hP : PP G (rv G h (oI (oI (oI rd 2 (nI (sk tx len a0))) 4 (nI 1)) 5 (nI (sk tx len a0))) w) H := hP
    have hD : va_D A (rv G h (oI (oI (oI rd 2 (nI (sk tx len a0))) 4 (nI 1)) 5 (nI (sk tx len a0))) w) := hD
    exact W.vret hx hb hr (fun t ht hW => ⟨⟨(oI (oI (oI rd 2 (nI (sk tx len a0))) 4 (nI 1)) 5 (nI (sk tx len a0)), w), rfl, Or.inr ⟨c5, rfl⟩, show PP G (rv G h (oI (oI (oI rd 2 (nI (sk tx len a0))) 4 (nI 1)) 5 (nI (sk tx len a0))) w) t.heap by rw [ht]; exact hP⟩, hS.F ht⟩) hS.2.2 dX1_expect_30
  · skip
    refine lv_aload_n hx hb dX1_expect_8 rfl (lv_at hl 0 rfl) ?_
    refine lv_dup hx hb dX1_expect_9 rfl ?_
    refine va_get (D := gD G) (ci := 1) (v := .int (nI (sk tx len a0))) (C := RX1) (T := TX1) (N := 10) hx hb hts hiX1 hown hK hP 0 rfl rfl 2 (by decide) k19 (fun _ h9 => h9) rfl dX1_expect_10 ?_
    refine lv_iconst (v := nI 1) hx hb dX1_expect_13 (by decide) ?_
    refine lv_iadd hx hb dX1_expect_14 ?_
    refine topE (y := nI ((sk tx len a0) + 1)) (nI_add (sk tx len a0) 1) ?_
    refine va_put (D := gD G) (ci := 1) (v := .int (nI ((sk tx len a0) + 1))) (ty := .int) (C := RX1) (T := TX1) (N := 10) hx hb hts hiX1 tyX1 tyX1_ok nmX1 hown hK hP hD hS 0 rfl rfl 2 (by decide) k19 (fun _ h9 => h9) rfl (tyX1_ok 2 (by decide)) (rfl) (rfl) (Nat.le_of_ble_eq_true rfl) dX1_expect_15 (fun H locs hP hD hS => ?_)
    have hP : PP G (rv G h (oI (oI rd 2 (nI (sk tx len a0))) 2 (nI ((sk tx len a0) + 1))) w) H := hP
    have hD : va_D A (rv G h (oI (oI rd 2 (nI (sk tx len a0))) 2 (nI ((sk tx len a0) + 1))) w) := hD
    refine lv_goto (tgt := 30) hx hb dX1_expect_18 (by decide) ?_
    exact W.vret hx hb hr (fun t ht hW => ⟨⟨(oI (oI rd 2 (nI (sk tx len a0))) 2 (nI ((sk tx len a0) + 1)), w), rfl, Or.inl ⟨c5, congrArg (fun q => (q, w)) (oI_oI _ _ _ _)⟩, show PP G (rv G h (oI (oI rd 2 (nI (sk tx len a0))) 2 (nI ((sk tx len a0) + 1))) w) t.heap by rw [ht]; exact hP⟩, hS.F ht⟩) hS.2.2 dX1_expect_30
set_option maxHeartbeats 1000000 in
set_option maxRecDepth 100000 in
theorem mt_X1_expect1 (l : Launch) (G : gG) (h : Nat → Nat) (sz : Nat) (rd : oS) (w : oS) (len : Nat) (a0 : Nat) (fz : Nat) (tx : Nat → Int32) (x : Int32) (hlen : rd.1 1 = nI len) (ha0 : rd.1 2 = nI a0) (hfz : rd.1 4 = nI fz) (hl240 : len ≤ 240) (hAn : a0 ≤ len) (htx : rwE (rd.2 0) tx len) (hfp : 0 < fz) (hfq : fz ≤ 4) (hxm : ¬ x = -1) : Met l yX1_expect wsX1_expect ({ frames := 1, cells := 0, slots := 0, locals := 22 }) (preW G (rv G h rd w) sz [.ref (h 0), .int x]) (va_Qv (fun (v : oS × oS) => v = (oI rd 2 (nI (sk tx len a0)), w)) (fun v t => PP G (rv G h v.1 v.2) t.heap) (va_A (rv G h rd w) sz)) 0 0 (va_A (rv G h rd w) sz) := by
  refine Met.ofW (cc := cX1_expect) (maxL := 2) (ret := none) (by decide) rfl ?_
  intro p e s m args below meth c s₁ B hml hv
  obtain ⟨ha, hsz, hP, hK, hN, hD0⟩ := hv
  subst ha
  have hx := B.exec
  have hb := B.bytes
  have hr := B.returns
  have hts := atoms_spec (ws := wsX1_expect) B.pre
  have hown : s.vm.findClass RX1 = some m.cls := findClass_of_methodNamed B.named
  have hlocks := B.notSynchronized
  subst hsz
  have hD := hD0.self (sz := s.heap.size)
  generalize hAe : va_A (rv G h rd w) s.heap.size = A at hD ⊢
  have hA : ∀ q : Nat, s.heap.size ≤ q → A q := fun q h => by rw [← hAe]; exact Or.inr h
  clear hAe hD0
  have hS : va_S A s.heap s.heap [] := va_S.rf
  have hiX1 : ∀ w ∈ wsX10, w ∈ wsX1_expect := fun w h9 => List.mem_cons_of_mem _ (List.mem_append_right _ (h9))
  have k19 := hts (.fieldLink RX1 19 "WovenHistory$Reader" "at" "I") (List.mem_of_getElem? (i := 1) rfl)
  have hl := lv_entry ([.ref (h 0), .int x]) (n := 2) (Nat.le_of_ble_eq_true rfl)
  rw [lg_entry_eq]
  generalize (lg_sl ([.ref (h 0), .int x]) ++ List.replicate (2 - (lg_sl ([.ref (h 0), .int x])).length) Slot.unset).toArray = ls at hl ⊢
  have hl : lv_has ls 2 [(0, .ref (h 0)), (1, .int x)] := hl
  refine lv_aload_n hx hb dX1_expect_0 rfl (lv_at hl 0 rfl) ?_
  refine cXi (As := []) (rest := []) (S := oS × oS) (wa := rv G h rd w) (w1 := fun v => rv G h v.1 v.2) ⟨hx, hb, hml, hown, hts⟩ (mt_X1_nextSign1 l G h _ rd w len a0 fz tx (hlen) (ha0) (hfz) (by first | assumption | omega) (by first | assumption | omega) (htx) (by first | assumption | omega) (by first | assumption | omega)) (cwV 0 hts gX1_expect_X1_nextSign rfl rfl rfl ⟨rfl, hd_X1_nextSign⟩ ⟨Nat.le_of_ble_eq_true rfl, Nat.le_of_ble_eq_true rfl⟩) hK hN hP hD hS hA (fun _ => rfl) 0 1 rfl rfl rfl hl.1 rfl (Nat.le_of_ble_eq_true rfl) ⟨Nat.zero_le _, Nat.zero_le _⟩ dX1_expect_1 (fun r1 u1 H locs hw1 hP hD hS => ?_)
  obtain ⟨rfl, rfl⟩ := hw1
  have hP : PP G (rv G h (oI rd 2 (nI (sk tx len a0))) w) H := hP
  have hD : va_D A (rv G h (oI rd 2 (nI (sk tx len a0))) w) := hD
  have hge1 : a0 ≤ sk tx len a0 := rn_ge _
  have hle1 : sk tx len a0 ≤ len := rn_le (by omega)
  refine lv_iload_n hx hb dX1_expect_4 rfl (lv_at hl 1 rfl) ?_
  refine lv_icmp_ne (tgt := 21) hx hb dX1_expect_5 (by decide) (fun c5 => ?_) (fun c5 => ?_)
  · skip
    refine lv_aload_n hx hb dX1_expect_21 rfl (lv_at hl 0 rfl) ?_
    refine lv_iconst (v := nI 1) hx hb dX1_expect_22 (by decide) ?_
    refine lv_aload_n hx hb dX1_expect_23 rfl (lv_at hl 0 rfl) ?_
    refine va_get (D := gD G) (ci := 1) (v := .int (nI (sk tx len a0))) (C := RX1) (T := TX1) (N := 10) hx hb hts hiX1 hown hK hP 0 rfl rfl 2 (by decide) k19 (fun _ h9 => h9) rfl dX1_expect_24 ?_
    refine cXv (As := [.int (nI 1), .int (nI (sk tx len a0))]) (rest := []) (S := oS × oS) (wa := rv G h (oI rd 2 (nI (sk tx len a0))) w) (w1 := fun v => rv G h v.1 v.2) ⟨hx, hb, hml, hown, hts⟩ (mt_X1_fail1 l G h _ (oI rd 2 (nI (sk tx len a0))) w fz (nI 1) (nI (sk tx len a0)) (hfz) (by first | assumption | omega) (by first | assumption | omega)) (cwV 2 hts gX1_expect_X1_fail rfl rfl rfl ⟨rfl, hd_X1_fail⟩ ⟨Nat.le_of_ble_eq_true rfl, Nat.le_of_ble_eq_true rfl⟩) hK hN hP hD hS hA (fun _ => rfl) 0 1 rfl rfl rfl hl.1 rfl (Nat.le_of_ble_eq_true rfl) ⟨Nat.zero_le _, Nat.zero_le _⟩ dX1_expect_27 (fun u27 H locs hw27 hP hD hS => ?_)
    obtain rfl := hw27
    have hP : PP G (rv G h (oI rd 2 (nI (sk tx len a0))) w) H := hP
    have hD : va_D A (rv G h (oI rd 2 (nI (sk tx len a0))) w) := hD
    exact W.vret hx hb hr (fun t ht hW => ⟨⟨(oI rd 2 (nI (sk tx len a0)), w), rfl, rfl, show PP G (rv G h (oI rd 2 (nI (sk tx len a0))) w) t.heap by rw [ht]; exact hP⟩, hS.F ht⟩) hS.2.2 dX1_expect_30
  · skip
    exact absurd c5.symm hxm
set_option maxHeartbeats 1000000 in
set_option maxRecDepth 100000 in
theorem mt_X1_isFigure (l : Launch) (x : Int32) : Met l yX1_isFigure wsX1_isFigure ({ frames := 0, cells := 0, slots := 0, locals := 0 }) (preS [.int x]) (vp_Si (fun r : Int32 => (r = 1 ∧ dig x = true) ∨ (r = 0 ∧ ¬ dig x = true))) 0 0 (fun _ => False) := by
  refine Met.ofW (cc := cX1_isFigure) (maxL := 1) (ret := (some .boolean)) (by decide) rfl ?_
  intro p e s m args below meth c s₁ B hml hv
  obtain ⟨ha, -⟩ := hv
  subst ha
  have hx := B.exec
  have hb := B.bytes
  have hr := B.returns
  have hts := atoms_spec (ws := wsX1_isFigure) B.pre
  have hown : s.vm.findClass RX1 = some m.cls := findClass_of_methodNamed B.named
  have hlocks := B.notSynchronized
  have hl := lv_entry ([.int x]) (n := 1) (Nat.le_of_ble_eq_true rfl)
  rw [lg_entry_eq]
  generalize (lg_sl ([.int x]) ++ List.replicate (1 - (lg_sl ([.int x])).length) Slot.unset).toArray = ls at hl ⊢
  have hl : lv_has ls 1 [(0, .int x)] := hl
  refine lv_iload_n hx hb dX1_isFigure_0 rfl (lv_at hl 0 rfl) ?_
  refine lv_bipush (v := nI 48) hx hb dX1_isFigure_1 (by decide) ?_
  refine lv_icmp_lt (tgt := 16) hx hb dX1_isFigure_3 (by decide) (fun c3 => ?_) (fun c3 => ?_)
  · skip
    refine lv_iconst (v := nI 0) hx hb dX1_isFigure_16 (by decide) ?_
    exact W.zret (v := nI 0) hx hb hr (by decide) (fun t ht hW => ⟨nI 0, rfl, by first | exact Or.inl ⟨rfl, dig_i.mpr ⟨by assumption, by assumption⟩⟩ | exact Or.inr ⟨rfl, fun q => (dig_i.mp q).1 (by assumption)⟩ | exact Or.inr ⟨rfl, fun q => (dig_i.mp q).2 (by assumption)⟩, ht⟩) (fun _ h9 => by cases h9) dX1_isFigure_17
  · skip
    refine lv_iload_n hx hb dX1_isFigure_6 rfl (lv_at hl 0 rfl) ?_
    refine lv_bipush (v := nI 57) hx hb dX1_isFigure_7 (by decide) ?_
    refine lv_icmp_gt (tgt := 16) hx hb dX1_isFigure_9 (by decide) (fun c9 => ?_) (fun c9 => ?_)
    · skip
      refine lv_iconst (v := nI 0) hx hb dX1_isFigure_16 (by decide) ?_
      exact W.zret (v := nI 0) hx hb hr (by decide) (fun t ht hW => ⟨nI 0, rfl, by first | exact Or.inl ⟨rfl, dig_i.mpr ⟨by assumption, by assumption⟩⟩ | exact Or.inr ⟨rfl, fun q => (dig_i.mp q).1 (by assumption)⟩ | exact Or.inr ⟨rfl, fun q => (dig_i.mp q).2 (by assumption)⟩, ht⟩) (fun _ h9 => by cases h9) dX1_isFigure_17
    · skip
      refine lv_iconst (v := nI 1) hx hb dX1_isFigure_12 (by decide) ?_
      refine lv_goto (tgt := 17) hx hb dX1_isFigure_13 (by decide) ?_
      exact W.zret (v := nI 1) hx hb hr (by decide) (fun t ht hW => ⟨nI 1, rfl, by first | exact Or.inl ⟨rfl, dig_i.mpr ⟨by assumption, by assumption⟩⟩ | exact Or.inr ⟨rfl, fun q => (dig_i.mp q).1 (by assumption)⟩ | exact Or.inr ⟨rfl, fun q => (dig_i.mp q).2 (by assumption)⟩, ht⟩) (fun _ h9 => by cases h9) dX1_isFigure_17
set_option maxHeartbeats 1000000 in
set_option maxRecDepth 100000 in
theorem mt_X1_readNumber (l : Launch) (G : gG) (h : Nat → Nat) (sz : Nat) (rd : oS) (w : oS) (len : Nat) (a0 : Nat) (tx : Nat → Int32) (hlen : rd.1 1 = nI len) (ha0 : rd.1 2 = nI a0) (hl240 : len ≤ 240) (hAn : a0 ≤ len) (htx : rwE (rd.2 0) tx len) (h40 : rd.1 4 = nI 0) : Met l yX1_readNumber wsX1_readNumber ({ frames := 1, cells := 0, slots := 0, locals := 22 }) (preW G (rv G h rd w) sz [.ref (h 0)]) (va_Qi (fun (r : Int32) (v : oS × oS) => (∃ q, v = (q, w) ∧ rel [2, 3] [] rd q ∧ q.1 2 = nI (nE tx len a0) ∧ q.1 3 = nI (sk tx len a0) ∧ nFl tx len a0 = 0 ∧ r = nI (nV tx len a0)) ∨ (∃ q f, v = (q, w) ∧ rel [2, 3, 4, 5] [] rd q ∧ q.1 2 = nI (nE tx len a0) ∧ q.1 3 = nI (sk tx len a0) ∧ nFl tx len a0 = f ∧ 0 < f ∧ f ≤ 2 ∧ q.1 4 = nI f ∧ q.1 5 = nI (sk tx len a0))) (fun v t => PP G (rv G h v.1 v.2) t.heap) (va_A (rv G h rd w) sz)) 0 0 (va_A (rv G h rd w) sz) := by
  refine Met.ofW (cc := cX1_readNumber) (maxL := 2) (ret := (some .int)) (by decide) rfl ?_
  intro p e s m args below meth c s₁ B hml hv
  obtain ⟨ha, hsz, hP, hK, hN, hD0⟩ := hv
  subst ha
  have hx := B.exec
  have hb := B.bytes
  have hr := B.returns
  have hts := atoms_spec (ws := wsX1_readNumber) B.pre
  have hown : s.vm.findClass RX1 = some m.cls := findClass_of_methodNamed B.named
  have hlocks := B.notSynchronized
  subst hsz
  have hD := hD0.self (sz := s.heap.size)
  generalize hAe : va_A (rv G h rd w) s.heap.size = A at hD ⊢
  have hA : ∀ q : Nat, s.heap.size ≤ q → A q := fun q h => by rw [← hAe]; exact Or.inr h
  clear hAe hD0
  have hS : va_S A s.heap s.heap [] := va_S.rf
  have hiX1 : ∀ w ∈ wsX10, w ∈ wsX1_readNumber := fun w h9 => List.mem_cons_of_mem _ (List.mem_append_right _ (h9))
  have k19 := hts (.fieldLink RX1 19 "WovenHistory$Reader" "at" "I") (List.mem_of_getElem? (i := 1) rfl)
  have k22 := hts (.fieldLink RX1 22 "WovenHistory$Reader" "numberAt" "I") (List.mem_of_getElem? (i := 2) rfl)
  have k15 := hts (.fieldLink RX1 15 "WovenHistory$Reader" "length" "I") (List.mem_of_getElem? (i := 3) rfl)
  have k9 := hts (.fieldLink RX1 9 "WovenHistory$Reader" "letters" "[I") (List.mem_of_getElem? (i := 4) rfl)
  have hl := lv_entry ([.ref (h 0)]) (n := 2) (Nat.le_of_ble_eq_true rfl)
  rw [lg_entry_eq]
  generalize (lg_sl ([.ref (h 0)]) ++ List.replicate (2 - (lg_sl ([.ref (h 0)])).length) Slot.unset).toArray = ls at hl ⊢
  have hl : lv_has ls 2 [(0, .ref (h 0))] := hl
  refine lv_aload_n hx hb dX1_readNumber_0 rfl (lv_at hl 0 rfl) ?_
  refine cXi (As := []) (rest := []) (S := oS × oS) (wa := rv G h rd w) (w1 := fun v => rv G h v.1 v.2) ⟨hx, hb, hml, hown, hts⟩ (mt_X1_nextSign0 l G h _ rd w len a0 tx (hlen) (ha0) (by first | assumption | omega) (by first | assumption | omega) (htx) (h40)) (cwV 0 hts gX1_readNumber_X1_nextSign rfl rfl rfl ⟨rfl, hd_X1_nextSign⟩ ⟨Nat.le_of_ble_eq_true rfl, Nat.le_of_ble_eq_true rfl⟩) hK hN hP hD hS hA (fun _ => rfl) 0 1 rfl rfl rfl hl.1 rfl (Nat.le_of_ble_eq_true rfl) ⟨Nat.zero_le _, Nat.zero_le _⟩ dX1_readNumber_1 (fun r1 u1 H locs hw1 hP hD hS => ?_)
  obtain ⟨rfl, rfl⟩ := hw1
  have hP : PP G (rv G h (oI rd 2 (nI (sk tx len a0))) w) H := hP
  have hD : va_D A (rv G h (oI rd 2 (nI (sk tx len a0))) w) := hD
  have hge1 : a0 ≤ sk tx len a0 := rn_ge _
  have hle1 : sk tx len a0 ≤ len := rn_le (by omega)
  refine lv_pop hx hb dX1_readNumber_4 rfl ?_
  refine lv_aload_n hx hb dX1_readNumber_5 rfl (lv_at hl 0 rfl) ?_
  refine lv_aload_n hx hb dX1_readNumber_6 rfl (lv_at hl 0 rfl) ?_
  refine va_get (D := gD G) (ci := 1) (v := .int (nI (sk tx len a0))) (C := RX1) (T := TX1) (N := 10) hx hb hts hiX1 hown hK hP 0 rfl rfl 2 (by decide) k19 (fun _ h9 => h9) rfl dX1_readNumber_7 ?_
  refine va_put (D := gD G) (ci := 1) (v := .int (nI (sk tx len a0))) (ty := .int) (C := RX1) (T := TX1) (N := 10) hx hb hts hiX1 tyX1 tyX1_ok nmX1 hown hK hP hD hS 0 rfl rfl 3 (by decide) k22 (fun _ h9 => h9) rfl (tyX1_ok 3 (by decide)) (rfl) (rfl) (Nat.le_of_ble_eq_true rfl) dX1_readNumber_10 (fun H locs hP hD hS => ?_)
  have hP : PP G (rv G h (oI (oI rd 2 (nI (sk tx len a0))) 3 (nI (sk tx len a0))) w) H := hP
  have hD : va_D A (rv G h (oI (oI rd 2 (nI (sk tx len a0))) 3 (nI (sk tx len a0))) w) := hD
  refine lv_iconst (v := nI 0) hx hb dX1_readNumber_13 (by decide) ?_
  refine lv_istore_n (lv' := [(1, .int (nI 0)), (0, .ref (h 0))]) hx hb dX1_readNumber_14 rfl hl (by decide) rfl (fun ls hl => ?_)
  have LP15 : ∀ (n15m : Nat), ∀ (b : Nat) (x : Int32) (hbb : sk tx len a0 ≤ b) (hbl : b ≤ len) (hdgE : dg tx len b = dg tx len (sk tx len a0)) (hdd : ∀ j, sk tx len a0 ≤ j → j < b → dig (tx j) = true) (hval : b ≤ sk tx len a0 + 2 → x = nI (val2 tx (sk tx len a0) b)), (len - b < n15m) → ∀ (H : Heap) (locs : List Loc) (ls : Array Slot), PP G (rv G h (oI (oI rd 3 (nI (sk tx len a0))) 2 (nI b)) w) H → va_D A (rv G h (oI (oI rd 3 (nI (sk tx len a0))) 2 (nI b)) w) → va_S A s.heap H locs → lv_has ls 2 [(0, .ref (h 0)), (1, .int x)] → W p l e (headSpec wsX1_readNumber ({ frames := 1, cells := 0, slots := 0, locals := 22 })).room s m ([.ref (h 0)] : List Value).toArray below meth c H locs 0 0 (MQ below (va_Qi (fun (r : Int32) (v : oS × oS) => (∃ q, v = (q, w) ∧ rel [2, 3] [] rd q ∧ q.1 2 = nI (nE tx len a0) ∧ q.1 3 = nI (sk tx len a0) ∧ nFl tx len a0 = 0 ∧ r = nI (nV tx len a0)) ∨ (∃ q f, v = (q, w) ∧ rel [2, 3, 4, 5] [] rd q ∧ q.1 2 = nI (nE tx len a0) ∧ q.1 3 = nI (sk tx len a0) ∧ nFl tx len a0 = f ∧ 0 < f ∧ f ≤ 2 ∧ q.1 4 = nI f ∧ q.1 5 = nI (sk tx len a0))) (fun v t => PP G (rv G h v.1 v.2) t.heap) A) ([.ref (h 0)] : List Value).toArray s 0 0 A) (F0 m 15 ls []) := by
    intro n15m
    induction n15m with
    | zero => intro b x hbb hbl hdgE hdd hval hmu H locs ls hP hD hS hl; exact absurd hmu (Nat.not_lt_zero _)
    | succ n15m ih15 =>
      intro b x hbb hbl hdgE hdd hval hmu H locs ls hP hD hS hl
      refine lv_aload_n hx hb dX1_readNumber_15 rfl (lv_at hl 0 rfl) ?_
      refine va_get (D := gD G) (ci := 1) (v := .int (nI b)) (C := RX1) (T := TX1) (N := 10) hx hb hts hiX1 hown hK hP 0 rfl rfl 2 (by decide) k19 (fun _ h9 => h9) rfl dX1_readNumber_16 ?_
      refine lv_aload_n hx hb dX1_readNumber_19 rfl (lv_at hl 0 rfl) ?_
      refine va_get (D := gD G) (ci := 1) (v := .int (rd.1 1)) (C := RX1) (T := TX1) (N := 10) hx hb hts hiX1 hown hK hP 0 rfl rfl 1 (by decide) k15 (fun _ h9 => h9) rfl dX1_readNumber_20 ?_
      refine topE hlen ?_
      refine lv_icmp_ge (tgt := 89) hx hb dX1_readNumber_23 (by decide) (fun c23 => ?_) (fun c23 => ?_)
      · skip
        have n23 : len ≤ b := (nI_leI (a := len) (b := b) (by omega) (by omega)).mp c23
        have hE : nE tx len a0 = b := rn_eq hdgE (by first | exact fun q => absurd q.1 (by omega) | exact fun q => absurd q.2 hn35)
        refine lv_aload_n hx hb dX1_readNumber_89 rfl (lv_at hl 0 rfl) ?_
        refine va_get (D := gD G) (ci := 1) (v := .int (nI b)) (C := RX1) (T := TX1) (N := 10) hx hb hts hiX1 hown hK hP 0 rfl rfl 2 (by decide) k19 (fun _ h9 => h9) rfl dX1_readNumber_90 ?_
        refine lv_aload_n hx hb dX1_readNumber_93 rfl (lv_at hl 0 rfl) ?_
        refine va_get (D := gD G) (ci := 1) (v := .int (nI (sk tx len a0))) (C := RX1) (T := TX1) (N := 10) hx hb hts hiX1 hown hK hP 0 rfl rfl 3 (by decide) k22 (fun _ h9 => h9) rfl dX1_readNumber_94 ?_
        refine lv_icmp_ne (tgt := 112) hx hb dX1_readNumber_97 (by decide) (fun c97 => ?_) (fun c97 => ?_)
        · skip
          have n97 : ¬ (b = (sk tx len a0)) := fun q9 => c97 ((nI_eq (a := b) (b := sk tx len a0) (by omega) (by omega)).mpr q9)
          refine lv_aload_n hx hb dX1_readNumber_112 rfl (lv_at hl 0 rfl) ?_
          refine va_get (D := gD G) (ci := 1) (v := .int (nI b)) (C := RX1) (T := TX1) (N := 10) hx hb hts hiX1 hown hK hP 0 rfl rfl 2 (by decide) k19 (fun _ h9 => h9) rfl dX1_readNumber_113 ?_
          refine lv_aload_n hx hb dX1_readNumber_116 rfl (lv_at hl 0 rfl) ?_
          refine va_get (D := gD G) (ci := 1) (v := .int (nI (sk tx len a0))) (C := RX1) (T := TX1) (N := 10) hx hb hts hiX1 hown hK hP 0 rfl rfl 3 (by decide) k22 (fun _ h9 => h9) rfl dX1_readNumber_117 ?_
          refine lv_isub hx hb dX1_readNumber_120 ?_
          refine topE (y := nI (b - (sk tx len a0))) (pk_sub (by omega)) ?_
          refine lv_iconst (v := nI 2) hx hb dX1_readNumber_121 (by decide) ?_
          refine lv_icmp_le (tgt := 134) hx hb dX1_readNumber_122 (by decide) (fun c122 => ?_) (fun c122 => ?_)
          · skip
            have n122 : (b - (sk tx len a0)) ≤ 2 := (nI_leI (a := b - (sk tx len a0)) (b := 2) (by omega) (by omega)).mp c122
            refine lv_iload_n hx hb dX1_readNumber_134 rfl (lv_at hl 1 rfl) ?_
            exact W.iret (v := x) hx hb hr (fun t ht hW => ⟨⟨x, (oI (oI rd 3 (nI (sk tx len a0))) 2 (nI b), w), rfl, Or.inl ⟨_, rfl, by repeat (first | exact rel.refl _ | exact rel.mono (by assumption) (by decide) (by decide) | refine rel.I (by decide) ?_ | refine rel.A (by decide) ?_ | refine rel.trans ?_ (rel.mono (by assumption) (by decide) (by decide))), by rw [hE]; rfl, rfl, nF_0 (by rw [hE]; omega) (by rw [hE]; omega), by unfold nV; rw [hE]; exact hval (by omega)⟩, show PP G (rv G h (oI (oI rd 3 (nI (sk tx len a0))) 2 (nI b)) w) t.heap by rw [ht]; exact hP⟩, hS.F ht⟩) hS.2.2 dX1_readNumber_135
          · skip
            have n122 : ¬ ((b - (sk tx len a0)) ≤ 2) := fun q9 => c122 ((nI_leI (a := b - (sk tx len a0)) (b := 2) (by omega) (by omega)).mpr q9)
            refine lv_aload_n hx hb dX1_readNumber_125 rfl (lv_at hl 0 rfl) ?_
            refine lv_iconst (v := nI 2) hx hb dX1_readNumber_126 (by decide) ?_
            refine lv_aload_n hx hb dX1_readNumber_127 rfl (lv_at hl 0 rfl) ?_
            refine va_get (D := gD G) (ci := 1) (v := .int (nI (sk tx len a0))) (C := RX1) (T := TX1) (N := 10) hx hb hts hiX1 hown hK hP 0 rfl rfl 3 (by decide) k22 (fun _ h9 => h9) rfl dX1_readNumber_128 ?_
            refine cXv (As := [.int (nI 2), .int (nI (sk tx len a0))]) (rest := []) (S := oS × oS) (wa := rv G h (oI (oI rd 3 (nI (sk tx len a0))) 2 (nI b)) w) (w1 := fun v => rv G h v.1 v.2) ⟨hx, hb, hml, hown, hts⟩ (mt_X1_fail0 l G h _ (oI (oI rd 3 (nI (sk tx len a0))) 2 (nI b)) w (nI 2) (nI (sk tx len a0)) (h40)) (cwV 2 hts gX1_readNumber_X1_fail rfl rfl rfl ⟨rfl, hd_X1_fail⟩ ⟨Nat.le_of_ble_eq_true rfl, Nat.le_of_ble_eq_true rfl⟩) hK hN hP hD hS hA (fun _ => rfl) 0 1 rfl rfl rfl hl.1 rfl (Nat.le_of_ble_eq_true rfl) ⟨Nat.zero_le _, Nat.zero_le _⟩ dX1_readNumber_131 (fun u131 H locs hw131 hP hD hS => ?_)
            obtain rfl := hw131
            have hP : PP G (rv G h (oI (oI (oI (oI rd 3 (nI (sk tx len a0))) 2 (nI b)) 4 (nI 2)) 5 (nI (sk tx len a0))) w) H := hP
            have hD : va_D A (rv G h (oI (oI (oI (oI rd 3 (nI (sk tx len a0))) 2 (nI b)) 4 (nI 2)) 5 (nI (sk tx len a0))) w) := hD
            refine lv_iload_n hx hb dX1_readNumber_134 rfl (lv_at hl 1 rfl) ?_
            exact W.iret (v := x) hx hb hr (fun t ht hW => ⟨⟨x, (oI (oI (oI (oI rd 3 (nI (sk tx len a0))) 2 (nI b)) 4 (nI 2)) 5 (nI (sk tx len a0)), w), rfl, Or.inr ⟨_, 2, rfl, by repeat (first | exact rel.refl _ | exact rel.mono (by assumption) (by decide) (by decide) | refine rel.I (by decide) ?_ | refine rel.A (by decide) ?_ | refine rel.trans ?_ (rel.mono (by assumption) (by decide) (by decide))), by rw [hE]; rfl, rfl, nF_2 (by rw [hE]; omega), by omega, by omega, rfl, rfl⟩, show PP G (rv G h (oI (oI (oI (oI rd 3 (nI (sk tx len a0))) 2 (nI b)) 4 (nI 2)) 5 (nI (sk tx len a0))) w) t.heap by rw [ht]; exact hP⟩, hS.F ht⟩) hS.2.2 dX1_readNumber_135
        · skip
          have n97 : b = (sk tx len a0) := (nI_eq (a := b) (b := sk tx len a0) (by omega) (by omega)).mp c97
          refine lv_aload_n hx hb dX1_readNumber_100 rfl (lv_at hl 0 rfl) ?_
          refine lv_iconst (v := nI 1) hx hb dX1_readNumber_101 (by decide) ?_
          refine lv_aload_n hx hb dX1_readNumber_102 rfl (lv_at hl 0 rfl) ?_
          refine va_get (D := gD G) (ci := 1) (v := .int (nI b)) (C := RX1) (T := TX1) (N := 10) hx hb hts hiX1 hown hK hP 0 rfl rfl 2 (by decide) k19 (fun _ h9 => h9) rfl dX1_readNumber_103 ?_
          refine cXv (As := [.int (nI 1), .int (nI b)]) (rest := []) (S := oS × oS) (wa := rv G h (oI (oI rd 3 (nI (sk tx len a0))) 2 (nI b)) w) (w1 := fun v => rv G h v.1 v.2) ⟨hx, hb, hml, hown, hts⟩ (mt_X1_fail0 l G h _ (oI (oI rd 3 (nI (sk tx len a0))) 2 (nI b)) w (nI 1) (nI b) (h40)) (cwV 2 hts gX1_readNumber_X1_fail rfl rfl rfl ⟨rfl, hd_X1_fail⟩ ⟨Nat.le_of_ble_eq_true rfl, Nat.le_of_ble_eq_true rfl⟩) hK hN hP hD hS hA (fun _ => rfl) 0 1 rfl rfl rfl hl.1 rfl (Nat.le_of_ble_eq_true rfl) ⟨Nat.zero_le _, Nat.zero_le _⟩ dX1_readNumber_106 (fun u106 H locs hw106 hP hD hS => ?_)
          obtain rfl := hw106
          have hP : PP G (rv G h (oI (oI (oI (oI rd 3 (nI (sk tx len a0))) 2 (nI b)) 4 (nI 1)) 5 (nI b)) w) H := hP
          have hD : va_D A (rv G h (oI (oI (oI (oI rd 3 (nI (sk tx len a0))) 2 (nI b)) 4 (nI 1)) 5 (nI b)) w) := hD
          refine lv_goto (tgt := 134) hx hb dX1_readNumber_109 (by decide) ?_
          refine lv_iload_n hx hb dX1_readNumber_134 rfl (lv_at hl 1 rfl) ?_
          exact W.iret (v := x) hx hb hr (fun t ht hW => ⟨⟨x, (oI (oI (oI (oI rd 3 (nI (sk tx len a0))) 2 (nI b)) 4 (nI 1)) 5 (nI b), w), rfl, Or.inr ⟨_, 1, rfl, by repeat (first | exact rel.refl _ | exact rel.mono (by assumption) (by decide) (by decide) | refine rel.I (by decide) ?_ | refine rel.A (by decide) ?_ | refine rel.trans ?_ (rel.mono (by assumption) (by decide) (by decide))), by rw [hE]; rfl, rfl, if_pos (hE.trans n97), by omega, by omega, rfl, by rw [← n97]; rfl⟩, show PP G (rv G h (oI (oI (oI (oI rd 3 (nI (sk tx len a0))) 2 (nI b)) 4 (nI 1)) 5 (nI b)) w) t.heap by rw [ht]; exact hP⟩, hS.F ht⟩) hS.2.2 dX1_readNumber_135
      · skip
        have n23 : ¬ (len ≤ b) := fun q9 => c23 ((nI_leI (a := len) (b := b) (by omega) (by omega)).mpr q9)
        refine lv_aload_n hx hb dX1_readNumber_26 rfl (lv_at hl 0 rfl) ?_
        refine va_get (D := gD G) (ci := 1) (v := .ref (h 1)) (C := RX1) (T := TX1) (N := 10) hx hb hts hiX1 hown hK hP 0 rfl rfl 0 (by decide) k9 (fun _ h9 => h9) rfl dX1_readNumber_27 ?_
        refine lv_aload_n hx hb dX1_readNumber_30 rfl (lv_at hl 0 rfl) ?_
        refine va_get (D := gD G) (ci := 1) (v := .int (nI b)) (C := RX1) (T := TX1) (N := 10) hx hb hts hiX1 hown hK hP 0 rfl rfl 2 (by decide) k19 (fun _ h9 => h9) rfl dX1_readNumber_31 ?_
        refine ialdN (f := rd.2 0) (n := 240) (k := b) hx hb hK hP 1 rfl rfl (by omega) dX1_readNumber_34 ?_
        refine topE (htx b (by omega)) ?_
        refine cSi (As := [.int (tx b)]) (rest := []) ⟨hx, hb, hml, hown, hts⟩ (mt_X1_isFigure l (tx b)) (va_cwS 1 hts gX1_readNumber_X1_isFigure rfl rfl rfl hd_X1_isFigure ⟨Nat.le_of_ble_eq_true rfl, Nat.le_of_ble_eq_true rfl⟩) rfl hl.1 rfl (Nat.le_of_ble_eq_true rfl) ⟨Nat.zero_le _, Nat.zero_le _⟩ dX1_readNumber_35 (fun r35 hw35 => ?_)
        rcases hw35 with ⟨rfl, hy35⟩ | ⟨rfl, hn35⟩
        · skip
          obtain ⟨d35, hd1, hd2, ed35⟩ := dig_d hy35
          refine lv_if_eq (tgt := 89) hx hb dX1_readNumber_38 (by decide) (fun c9 => absurd c9 (by decide)) (fun _ => ?_)
          refine lv_aload_n hx hb dX1_readNumber_41 rfl (lv_at hl 0 rfl) ?_
          refine va_get (D := gD G) (ci := 1) (v := .int (nI b)) (C := RX1) (T := TX1) (N := 10) hx hb hts hiX1 hown hK hP 0 rfl rfl 2 (by decide) k19 (fun _ h9 => h9) rfl dX1_readNumber_42 ?_
          refine lv_aload_n hx hb dX1_readNumber_45 rfl (lv_at hl 0 rfl) ?_
          refine va_get (D := gD G) (ci := 1) (v := .int (nI (sk tx len a0))) (C := RX1) (T := TX1) (N := 10) hx hb hts hiX1 hown hK hP 0 rfl rfl 3 (by decide) k22 (fun _ h9 => h9) rfl dX1_readNumber_46 ?_
          refine lv_isub hx hb dX1_readNumber_49 ?_
          refine topE (y := nI (b - (sk tx len a0))) (pk_sub (by omega)) ?_
          refine lv_iconst (v := nI 2) hx hb dX1_readNumber_50 (by decide) ?_
          refine lv_icmp_ge (tgt := 74) hx hb dX1_readNumber_51 (by decide) (fun c51 => ?_) (fun c51 => ?_)
          · skip
            have n51 : 2 ≤ (b - (sk tx len a0)) := (nI_leI (a := 2) (b := b - (sk tx len a0)) (by omega) (by omega)).mp c51
            refine lv_iload_n hx hb dX1_readNumber_74 rfl (lv_at hl 1 rfl) ?_
            refine lv_istore_n (lv' := [(1, .int x), (0, .ref (h 0))]) hx hb dX1_readNumber_75 rfl hl (by decide) rfl (fun ls hl => ?_)
            refine lv_aload_n hx hb dX1_readNumber_76 rfl (lv_at hl 1 rfl) ?_
            refine lv_dup hx hb dX1_readNumber_77 rfl ?_
            refine va_get (D := gD G) (ci := 1) (v := .int (nI b)) (C := RX1) (T := TX1) (N := 10) hx hb hts hiX1 hown hK hP 0 rfl rfl 2 (by decide) k19 (fun _ h9 => h9) rfl dX1_readNumber_78 ?_
            refine lv_iconst (v := nI 1) hx hb dX1_readNumber_81 (by decide) ?_
            refine lv_iadd hx hb dX1_readNumber_82 ?_
            refine topE (y := nI (b + 1)) (nI_add b 1) ?_
            refine va_put (D := gD G) (ci := 1) (v := .int (nI (b + 1))) (ty := .int) (C := RX1) (T := TX1) (N := 10) hx hb hts hiX1 tyX1 tyX1_ok nmX1 hown hK hP hD hS 0 rfl rfl 2 (by decide) k19 (fun _ h9 => h9) rfl (tyX1_ok 2 (by decide)) (rfl) (rfl) (Nat.le_of_ble_eq_true rfl) dX1_readNumber_83 (fun H locs hP hD hS => ?_)
            have hP : PP G (rv G h (oI (oI (oI rd 3 (nI (sk tx len a0))) 2 (nI b)) 2 (nI (b + 1))) w) H := hP
            have hD : va_D A (rv G h (oI (oI (oI rd 3 (nI (sk tx len a0))) 2 (nI b)) 2 (nI (b + 1))) w) := hD
            refine lv_goto (tgt := 15) hx hb dX1_readNumber_86 (by decide) ?_
            exact ih15 (b + 1) x (by first | assumption | omega) (by first | assumption | omega) ((rn_s (by omega) hy35).trans hdgE) (fun j h1 h2 => by by_cases e9 : j = b; rw [e9]; exact hy35; exact hdd j h1 (by omega)) (fun q9 => absurd q9 (by omega)) (by omega) _ _ ls hP hD hS (lv_sub hl [1, 0] rfl)
          · skip
            have n51 : ¬ (2 ≤ (b - (sk tx len a0))) := fun q9 => c51 ((nI_leI (a := 2) (b := b - (sk tx len a0)) (by omega) (by omega)).mpr q9)
            obtain rfl : x = nI (val2 tx (sk tx len a0) b) := hval (by omega)
            have hv9 : val2 tx (sk tx len a0) b ≤ 99 := val2_le (fun j h1 h2 => hdd j h1 h2) hbb (by omega)
            refine lv_iload_n hx hb dX1_readNumber_54 rfl (lv_at hl 1 rfl) ?_
            refine lv_bipush (v := nI 10) hx hb dX1_readNumber_55 (by decide) ?_
            refine lv_imul hx hb dX1_readNumber_57 ?_
            refine topE (y := nI ((val2 tx (sk tx len a0) b) * 10)) (pk_mul (val2 tx (sk tx len a0) b) 10) ?_
            refine lv_aload_n hx hb dX1_readNumber_58 rfl (lv_at hl 0 rfl) ?_
            refine va_get (D := gD G) (ci := 1) (v := .ref (h 1)) (C := RX1) (T := TX1) (N := 10) hx hb hts hiX1 hown hK hP 0 rfl rfl 0 (by decide) k9 (fun _ h9 => h9) rfl dX1_readNumber_59 ?_
            refine lv_aload_n hx hb dX1_readNumber_62 rfl (lv_at hl 0 rfl) ?_
            refine va_get (D := gD G) (ci := 1) (v := .int (nI b)) (C := RX1) (T := TX1) (N := 10) hx hb hts hiX1 hown hK hP 0 rfl rfl 2 (by decide) k19 (fun _ h9 => h9) rfl dX1_readNumber_63 ?_
            refine ialdN (f := rd.2 0) (n := 240) (k := b) hx hb hK hP 1 rfl rfl (by omega) dX1_readNumber_66 ?_
            refine topE (htx b (by omega)) ?_
            refine topE ed35 ?_
            refine lv_iadd hx hb dX1_readNumber_67 ?_
            refine topE (y := nI (((val2 tx (sk tx len a0) b) * 10) + d35)) (nI_add ((val2 tx (sk tx len a0) b) * 10) d35) ?_
            refine lv_bipush (v := nI 48) hx hb dX1_readNumber_68 (by decide) ?_
            refine lv_isub hx hb dX1_readNumber_70 ?_
            refine topE (y := nI ((((val2 tx (sk tx len a0) b) * 10) + d35) - 48)) (pk_sub (by omega)) ?_
            refine lv_goto (tgt := 75) hx hb dX1_readNumber_71 (by decide) ?_
            refine lv_istore_n (lv' := [(1, .int (nI ((((val2 tx (sk tx len a0) b) * 10) + d35) - 48))), (0, .ref (h 0))]) hx hb dX1_readNumber_75 rfl hl (by decide) rfl (fun ls hl => ?_)
            refine lv_aload_n hx hb dX1_readNumber_76 rfl (lv_at hl 1 rfl) ?_
            refine lv_dup hx hb dX1_readNumber_77 rfl ?_
            refine va_get (D := gD G) (ci := 1) (v := .int (nI b)) (C := RX1) (T := TX1) (N := 10) hx hb hts hiX1 hown hK hP 0 rfl rfl 2 (by decide) k19 (fun _ h9 => h9) rfl dX1_readNumber_78 ?_
            refine lv_iconst (v := nI 1) hx hb dX1_readNumber_81 (by decide) ?_
            refine lv_iadd hx hb dX1_readNumber_82 ?_
            refine topE (y := nI (b + 1)) (nI_add b 1) ?_
            refine va_put (D := gD G) (ci := 1) (v := .int (nI (b + 1))) (ty := .int) (C := RX1) (T := TX1) (N := 10) hx hb hts hiX1 tyX1 tyX1_ok nmX1 hown hK hP hD hS 0 rfl rfl 2 (by decide) k19 (fun _ h9 => h9) rfl (tyX1_ok 2 (by decide)) (rfl) (rfl) (Nat.le_of_ble_eq_true rfl) dX1_readNumber_83 (fun H locs hP hD hS => ?_)
            have hP : PP G (rv G h (oI (oI (oI rd 3 (nI (sk tx len a0))) 2 (nI b)) 2 (nI (b + 1))) w) H := hP
            have hD : va_D A (rv G h (oI (oI (oI rd 3 (nI (sk tx len a0))) 2 (nI b)) 2 (nI (b + 1))) w) := hD
            refine lv_goto (tgt := 15) hx hb dX1_readNumber_86 (by decide) ?_
            exact ih15 (b + 1) (nI ((((val2 tx (sk tx len a0) b) * 10) + d35) - 48)) (by first | assumption | omega) (by first | assumption | omega) ((rn_s (by omega) hy35).trans hdgE) (fun j h1 h2 => by by_cases e9 : j = b; rw [e9]; exact hy35; exact hdd j h1 (by omega)) (fun q9 => by rw [val2_s (by omega) (by omega), dv_n (d := d35) (by omega) ed35]; congr 1; omega) (by omega) _ _ ls hP hD hS (lv_sub hl [1, 0] rfl)
        · skip
          refine lv_if_eq (tgt := 89) hx hb dX1_readNumber_38 (by decide) (fun _ => ?_) (fun c9 => absurd (by decide) c9)
          have hE : nE tx len a0 = b := rn_eq hdgE (by first | exact fun q => absurd q.1 (by omega) | exact fun q => absurd q.2 hn35)
          refine lv_aload_n hx hb dX1_readNumber_89 rfl (lv_at hl 0 rfl) ?_
          refine va_get (D := gD G) (ci := 1) (v := .int (nI b)) (C := RX1) (T := TX1) (N := 10) hx hb hts hiX1 hown hK hP 0 rfl rfl 2 (by decide) k19 (fun _ h9 => h9) rfl dX1_readNumber_90 ?_
          refine lv_aload_n hx hb dX1_readNumber_93 rfl (lv_at hl 0 rfl) ?_
          refine va_get (D := gD G) (ci := 1) (v := .int (nI (sk tx len a0))) (C := RX1) (T := TX1) (N := 10) hx hb hts hiX1 hown hK hP 0 rfl rfl 3 (by decide) k22 (fun _ h9 => h9) rfl dX1_readNumber_94 ?_
          refine lv_icmp_ne (tgt := 112) hx hb dX1_readNumber_97 (by decide) (fun c97 => ?_) (fun c97 => ?_)
          · skip
            have n97 : ¬ (b = (sk tx len a0)) := fun q9 => c97 ((nI_eq (a := b) (b := sk tx len a0) (by omega) (by omega)).mpr q9)
            refine lv_aload_n hx hb dX1_readNumber_112 rfl (lv_at hl 0 rfl) ?_
            refine va_get (D := gD G) (ci := 1) (v := .int (nI b)) (C := RX1) (T := TX1) (N := 10) hx hb hts hiX1 hown hK hP 0 rfl rfl 2 (by decide) k19 (fun _ h9 => h9) rfl dX1_readNumber_113 ?_
            refine lv_aload_n hx hb dX1_readNumber_116 rfl (lv_at hl 0 rfl) ?_
            refine va_get (D := gD G) (ci := 1) (v := .int (nI (sk tx len a0))) (C := RX1) (T := TX1) (N := 10) hx hb hts hiX1 hown hK hP 0 rfl rfl 3 (by decide) k22 (fun _ h9 => h9) rfl dX1_readNumber_117 ?_
            refine lv_isub hx hb dX1_readNumber_120 ?_
            refine topE (y := nI (b - (sk tx len a0))) (pk_sub (by omega)) ?_
            refine lv_iconst (v := nI 2) hx hb dX1_readNumber_121 (by decide) ?_
            refine lv_icmp_le (tgt := 134) hx hb dX1_readNumber_122 (by decide) (fun c122 => ?_) (fun c122 => ?_)
            · skip
              have n122 : (b - (sk tx len a0)) ≤ 2 := (nI_leI (a := b - (sk tx len a0)) (b := 2) (by omega) (by omega)).mp c122
              refine lv_iload_n hx hb dX1_readNumber_134 rfl (lv_at hl 1 rfl) ?_
              exact W.iret (v := x) hx hb hr (fun t ht hW => ⟨⟨x, (oI (oI rd 3 (nI (sk tx len a0))) 2 (nI b), w), rfl, Or.inl ⟨_, rfl, by repeat (first | exact rel.refl _ | exact rel.mono (by assumption) (by decide) (by decide) | refine rel.I (by decide) ?_ | refine rel.A (by decide) ?_ | refine rel.trans ?_ (rel.mono (by assumption) (by decide) (by decide))), by rw [hE]; rfl, rfl, nF_0 (by rw [hE]; omega) (by rw [hE]; omega), by unfold nV; rw [hE]; exact hval (by omega)⟩, show PP G (rv G h (oI (oI rd 3 (nI (sk tx len a0))) 2 (nI b)) w) t.heap by rw [ht]; exact hP⟩, hS.F ht⟩) hS.2.2 dX1_readNumber_135
            · skip
              have n122 : ¬ ((b - (sk tx len a0)) ≤ 2) := fun q9 => c122 ((nI_leI (a := b - (sk tx len a0)) (b := 2) (by omega) (by omega)).mpr q9)
              refine lv_aload_n hx hb dX1_readNumber_125 rfl (lv_at hl 0 rfl) ?_
              refine lv_iconst (v := nI 2) hx hb dX1_readNumber_126 (by decide) ?_
              refine lv_aload_n hx hb dX1_readNumber_127 rfl (lv_at hl 0 rfl) ?_
              refine va_get (D := gD G) (ci := 1) (v := .int (nI (sk tx len a0))) (C := RX1) (T := TX1) (N := 10) hx hb hts hiX1 hown hK hP 0 rfl rfl 3 (by decide) k22 (fun _ h9 => h9) rfl dX1_readNumber_128 ?_
              refine cXv (As := [.int (nI 2), .int (nI (sk tx len a0))]) (rest := []) (S := oS × oS) (wa := rv G h (oI (oI rd 3 (nI (sk tx len a0))) 2 (nI b)) w) (w1 := fun v => rv G h v.1 v.2) ⟨hx, hb, hml, hown, hts⟩ (mt_X1_fail0 l G h _ (oI (oI rd 3 (nI (sk tx len a0))) 2 (nI b)) w (nI 2) (nI (sk tx len a0)) (h40)) (cwV 2 hts gX1_readNumber_X1_fail rfl rfl rfl ⟨rfl, hd_X1_fail⟩ ⟨Nat.le_of_ble_eq_true rfl, Nat.le_of_ble_eq_true rfl⟩) hK hN hP hD hS hA (fun _ => rfl) 0 1 rfl rfl rfl hl.1 rfl (Nat.le_of_ble_eq_true rfl) ⟨Nat.zero_le _, Nat.zero_le _⟩ dX1_readNumber_131 (fun u131 H locs hw131 hP hD hS => ?_)
              obtain rfl := hw131
              have hP : PP G (rv G h (oI (oI (oI (oI rd 3 (nI (sk tx len a0))) 2 (nI b)) 4 (nI 2)) 5 (nI (sk tx len a0))) w) H := hP
              have hD : va_D A (rv G h (oI (oI (oI (oI rd 3 (nI (sk tx len a0))) 2 (nI b)) 4 (nI 2)) 5 (nI (sk tx len a0))) w) := hD
              refine lv_iload_n hx hb dX1_readNumber_134 rfl (lv_at hl 1 rfl) ?_
              exact W.iret (v := x) hx hb hr (fun t ht hW => ⟨⟨x, (oI (oI (oI (oI rd 3 (nI (sk tx len a0))) 2 (nI b)) 4 (nI 2)) 5 (nI (sk tx len a0)), w), rfl, Or.inr ⟨_, 2, rfl, by repeat (first | exact rel.refl _ | exact rel.mono (by assumption) (by decide) (by decide) | refine rel.I (by decide) ?_ | refine rel.A (by decide) ?_ | refine rel.trans ?_ (rel.mono (by assumption) (by decide) (by decide))), by rw [hE]; rfl, rfl, nF_2 (by rw [hE]; omega), by omega, by omega, rfl, rfl⟩, show PP G (rv G h (oI (oI (oI (oI rd 3 (nI (sk tx len a0))) 2 (nI b)) 4 (nI 2)) 5 (nI (sk tx len a0))) w) t.heap by rw [ht]; exact hP⟩, hS.F ht⟩) hS.2.2 dX1_readNumber_135
          · skip
            have n97 : b = (sk tx len a0) := (nI_eq (a := b) (b := sk tx len a0) (by omega) (by omega)).mp c97
            refine lv_aload_n hx hb dX1_readNumber_100 rfl (lv_at hl 0 rfl) ?_
            refine lv_iconst (v := nI 1) hx hb dX1_readNumber_101 (by decide) ?_
            refine lv_aload_n hx hb dX1_readNumber_102 rfl (lv_at hl 0 rfl) ?_
            refine va_get (D := gD G) (ci := 1) (v := .int (nI b)) (C := RX1) (T := TX1) (N := 10) hx hb hts hiX1 hown hK hP 0 rfl rfl 2 (by decide) k19 (fun _ h9 => h9) rfl dX1_readNumber_103 ?_
            refine cXv (As := [.int (nI 1), .int (nI b)]) (rest := []) (S := oS × oS) (wa := rv G h (oI (oI rd 3 (nI (sk tx len a0))) 2 (nI b)) w) (w1 := fun v => rv G h v.1 v.2) ⟨hx, hb, hml, hown, hts⟩ (mt_X1_fail0 l G h _ (oI (oI rd 3 (nI (sk tx len a0))) 2 (nI b)) w (nI 1) (nI b) (h40)) (cwV 2 hts gX1_readNumber_X1_fail rfl rfl rfl ⟨rfl, hd_X1_fail⟩ ⟨Nat.le_of_ble_eq_true rfl, Nat.le_of_ble_eq_true rfl⟩) hK hN hP hD hS hA (fun _ => rfl) 0 1 rfl rfl rfl hl.1 rfl (Nat.le_of_ble_eq_true rfl) ⟨Nat.zero_le _, Nat.zero_le _⟩ dX1_readNumber_106 (fun u106 H locs hw106 hP hD hS => ?_)
            obtain rfl := hw106
            have hP : PP G (rv G h (oI (oI (oI (oI rd 3 (nI (sk tx len a0))) 2 (nI b)) 4 (nI 1)) 5 (nI b)) w) H := hP
            have hD : va_D A (rv G h (oI (oI (oI (oI rd 3 (nI (sk tx len a0))) 2 (nI b)) 4 (nI 1)) 5 (nI b)) w) := hD
            refine lv_goto (tgt := 134) hx hb dX1_readNumber_109 (by decide) ?_
            refine lv_iload_n hx hb dX1_readNumber_134 rfl (lv_at hl 1 rfl) ?_
            exact W.iret (v := x) hx hb hr (fun t ht hW => ⟨⟨x, (oI (oI (oI (oI rd 3 (nI (sk tx len a0))) 2 (nI b)) 4 (nI 1)) 5 (nI b), w), rfl, Or.inr ⟨_, 1, rfl, by repeat (first | exact rel.refl _ | exact rel.mono (by assumption) (by decide) (by decide) | refine rel.I (by decide) ?_ | refine rel.A (by decide) ?_ | refine rel.trans ?_ (rel.mono (by assumption) (by decide) (by decide))), by rw [hE]; rfl, rfl, if_pos (hE.trans n97), by omega, by omega, rfl, by rw [← n97]; rfl⟩, show PP G (rv G h (oI (oI (oI (oI rd 3 (nI (sk tx len a0))) 2 (nI b)) 4 (nI 1)) 5 (nI b)) w) t.heap by rw [ht]; exact hP⟩, hS.F ht⟩) hS.2.2 dX1_readNumber_135
  exact LP15 (len - (sk tx len a0) + 1) (sk tx len a0) (nI 0) (by first | assumption | omega) (by first | assumption | omega) (rfl) (fun j h1 h2 => absurd h2 (by omega)) (fun _ => by rw [val2_0]) (Nat.lt_succ_self _) _ _ ls hP hD hS (lv_sub hl [1, 0] rfl)
set_option maxHeartbeats 1000000 in
set_option maxRecDepth 100000 in
theorem mt_X1_readVersionNumber (l : Launch) (G : gG) (h : Nat → Nat) (sz : Nat) (rd : oS) (w : oS) (len : Nat) (a0 : Nat) (nv : Nat) (tx : Nat → Int32) (hlen : rd.1 1 = nI len) (ha0 : rd.1 2 = nI a0) (hnv : w.1 0 = nI nv) (hl240 : len ≤ 240) (hAn : a0 ≤ len) (hnv24 : nv ≤ 24) (htx : rwE (rd.2 0) tx len) (h40 : rd.1 4 = nI 0) : Met l yX1_readVersionNumber wsX1_readVersionNumber ({ frames := 2, cells := 0, slots := 0, locals := 43 }) (preW G (rv G h rd w) sz [.ref (h 0)]) (va_Qi (fun (r : Int32) (v : oS × oS) => (∃ q, v = (q, w) ∧ rel [2, 3] [] rd q ∧ q.1 2 = nI (nE tx len a0) ∧ q.1 3 = nI (sk tx len a0) ∧ vF tx len nv a0 = 0 ∧ r = nI (nV tx len a0)) ∨ (∃ q f, v = (q, w) ∧ rel [2, 3, 4, 5] [] rd q ∧ q.1 2 = nI (nE tx len a0) ∧ q.1 3 = nI (sk tx len a0) ∧ vF tx len nv a0 = f ∧ 0 < f ∧ f ≤ 2 ∧ q.1 4 = nI f ∧ q.1 5 = nI (sk tx len a0))) (fun v t => PP G (rv G h v.1 v.2) t.heap) (va_A (rv G h rd w) sz)) 0 0 (va_A (rv G h rd w) sz) := by
  refine Met.ofW (cc := cX1_readVersionNumber) (maxL := 2) (ret := (some .int)) (by decide) rfl ?_
  intro p e s m args below meth c s₁ B hml hv
  obtain ⟨ha, hsz, hP, hK, hN, hD0⟩ := hv
  subst ha
  have hx := B.exec
  have hb := B.bytes
  have hr := B.returns
  have hts := atoms_spec (ws := wsX1_readVersionNumber) B.pre
  have hown : s.vm.findClass RX1 = some m.cls := findClass_of_methodNamed B.named
  have hlocks := B.notSynchronized
  subst hsz
  have hD := hD0.self (sz := s.heap.size)
  generalize hAe : va_A (rv G h rd w) s.heap.size = A at hD ⊢
  have hA : ∀ q : Nat, s.heap.size ≤ q → A q := fun q h => by rw [← hAe]; exact Or.inr h
  clear hAe hD0
  have hS : va_S A s.heap s.heap [] := va_S.rf
  have hiX1 : ∀ w ∈ wsX10, w ∈ wsX1_readVersionNumber := fun w h9 => List.mem_cons_of_mem _ (List.mem_append_left _ (List.mem_append_right _ (h9)))
  have k44 := hts (.fieldLink RX1 44 "WovenHistory$Reader" "woven" "LWovenHistory$Weave;") (List.mem_of_getElem? (i := 1) rfl)
  have k22 := hts (.fieldLink RX1 22 "WovenHistory$Reader" "numberAt" "I") (List.mem_of_getElem? (i := 2) rfl)
  have hl := lv_entry ([.ref (h 0)]) (n := 2) (Nat.le_of_ble_eq_true rfl)
  rw [lg_entry_eq]
  generalize (lg_sl ([.ref (h 0)]) ++ List.replicate (2 - (lg_sl ([.ref (h 0)])).length) Slot.unset).toArray = ls at hl ⊢
  have hl : lv_has ls 2 [(0, .ref (h 0))] := hl
  refine lv_aload_n hx hb dX1_readVersionNumber_0 rfl (lv_at hl 0 rfl) ?_
  refine cXi (As := []) (rest := []) (S := oS × oS) (wa := rv G h rd w) (w1 := fun v => rv G h v.1 v.2) ⟨hx, hb, hml, hown, hts⟩ (mt_X1_readNumber l G h _ rd w len a0 tx (hlen) (ha0) (by first | assumption | omega) (by first | assumption | omega) (htx) (h40)) (cwV 0 hts gX1_readVersionNumber_X1_readNumber rfl rfl rfl ⟨rfl, hd_X1_readNumber⟩ ⟨Nat.le_of_ble_eq_true rfl, Nat.le_of_ble_eq_true rfl⟩) hK hN hP hD hS hA (fun _ => rfl) 0 1 rfl rfl rfl hl.1 rfl (Nat.le_of_ble_eq_true rfl) ⟨Nat.zero_le _, Nat.zero_le _⟩ dX1_readVersionNumber_1 (fun r1 u1 H locs hw1 hP hD hS => ?_)
  rcases hw1 with ⟨q1, rfl, hR1, hb1, e31, hf1, rfl⟩ | ⟨q1, f1, rfl, hR1, hb1, e31, hf1, hp1, hg1, e41, e51⟩
  · skip
    have hP : PP G (rv G h q1 w) H := hP
    have hD : va_D A (rv G h q1 w) := hD
    have htx1 : rwE (q1.2 0) tx len := by rw [hR1.2 0 (by decide)]; exact (htx)
    have hEg1 : a0 ≤ nE tx len a0 := nE_ge _ _ _
    have hEl1 : nE tx len a0 ≤ len := nE_le (by omega)
    have hV1 : nV tx len a0 ≤ 99 := nV_le hf1
    refine lv_istore_n (lv' := [(1, .int (nI (nV tx len a0))), (0, .ref (h 0))]) hx hb dX1_readVersionNumber_4 rfl hl (by decide) rfl (fun ls hl => ?_)
    refine lv_aload_n hx hb dX1_readVersionNumber_5 rfl (lv_at hl 1 rfl) ?_
    refine va_get (D := gD G) (ci := 1) (v := .ref (h 10)) (C := RX1) (T := TX1) (N := 10) hx hb hts hiX1 hown hK hP 0 rfl rfl 9 (by decide) k44 (fun _ h9 => h9) rfl dX1_readVersionNumber_6 ?_
    refine lv_iload_n hx hb dX1_readVersionNumber_9 rfl (lv_at hl 0 rfl) ?_
    refine cRi (w := wv G (fun k => h (10 + k)) w) (As := [.int (nI (nV tx len a0))]) (rest := []) ⟨hx, hb, hml, hown, hts⟩ (mt_X3_hasVersion l G (fun k => h (10 + k)) w nv (nI (nV tx len a0)) (hnv) (by first | assumption | omega)) (cwV 1 hts gX1_readVersionNumber_X3_hasVersion rfl rfl rfl ⟨rfl, hd_X3_hasVersion⟩ ⟨Nat.le_of_ble_eq_true rfl, Nat.le_of_ble_eq_true rfl⟩) hK hN (hP.sub [4, 5, 6, 7, 8, 9, 10, 11] rfl) 0 3 rfl rfl rfl hl.1 rfl (Nat.le_of_ble_eq_true rfl) ⟨Nat.zero_le _, Nat.zero_le _⟩ dX1_readVersionNumber_10 (fun r10 hw10 => ?_)
    rcases hw10 with ⟨rfl, j10, hj10, ej10⟩ | ⟨rfl, hn10⟩
    · skip
      have hVn : nV tx len a0 < nv := by have := nI_inj5 (by omega) (by omega) ej10; omega
      refine lv_if_ne (tgt := 25) hx hb dX1_readVersionNumber_13 (by decide) (fun _ => ?_) (fun c9 => absurd c9 (by decide))
      refine lv_iload_n hx hb dX1_readVersionNumber_25 rfl (lv_at hl 0 rfl) ?_
      exact W.iret (v := nI (nV tx len a0)) hx hb hr (fun t ht hW => ⟨⟨nI (nV tx len a0), (q1, w), rfl, Or.inl ⟨_, rfl, by repeat (first | exact rel.refl _ | exact rel.mono (by assumption) (by decide) (by decide) | refine rel.I (by decide) ?_ | refine rel.A (by decide) ?_ | refine rel.trans ?_ (rel.mono (by assumption) (by decide) (by decide))), hb1, e31, vF_0 hf1 (by omega), rfl⟩, show PP G (rv G h q1 w) t.heap by rw [ht]; exact hP⟩, hS.F ht⟩) hS.2.2 dX1_readVersionNumber_26
    · skip
      refine lv_if_ne (tgt := 25) hx hb dX1_readVersionNumber_13 (by decide) (fun c9 => absurd (by decide) c9) (fun _ => ?_)
      refine lv_aload_n hx hb dX1_readVersionNumber_16 rfl (lv_at hl 1 rfl) ?_
      refine lv_iconst (v := nI 2) hx hb dX1_readVersionNumber_17 (by decide) ?_
      refine lv_aload_n hx hb dX1_readVersionNumber_18 rfl (lv_at hl 1 rfl) ?_
      refine va_get (D := gD G) (ci := 1) (v := .int (q1.1 3)) (C := RX1) (T := TX1) (N := 10) hx hb hts hiX1 hown hK hP 0 rfl rfl 3 (by decide) k22 (fun _ h9 => h9) rfl dX1_readVersionNumber_19 ?_
      refine topE e31 ?_
      refine cXv (As := [.int (nI 2), .int (nI (sk tx len a0))]) (rest := []) (S := oS × oS) (wa := rv G h q1 w) (w1 := fun v => rv G h v.1 v.2) ⟨hx, hb, hml, hown, hts⟩ (mt_X1_fail0 l G h _ q1 w (nI 2) (nI (sk tx len a0)) ((hR1.1 4 (by decide)).trans (h40))) (cwV 2 hts gX1_readVersionNumber_X1_fail rfl rfl rfl ⟨rfl, hd_X1_fail⟩ ⟨Nat.le_of_ble_eq_true rfl, Nat.le_of_ble_eq_true rfl⟩) hK hN hP hD hS hA (fun _ => rfl) 0 1 rfl rfl rfl hl.1 rfl (Nat.le_of_ble_eq_true rfl) ⟨Nat.zero_le _, Nat.zero_le _⟩ dX1_readVersionNumber_22 (fun u22 H locs hw22 hP hD hS => ?_)
      obtain rfl := hw22
      have hP : PP G (rv G h (oI (oI q1 4 (nI 2)) 5 (nI (sk tx len a0))) w) H := hP
      have hD : va_D A (rv G h (oI (oI q1 4 (nI 2)) 5 (nI (sk tx len a0))) w) := hD
      refine lv_iload_n hx hb dX1_readVersionNumber_25 rfl (lv_at hl 0 rfl) ?_
      exact W.iret (v := nI (nV tx len a0)) hx hb hr (fun t ht hW => ⟨⟨nI (nV tx len a0), (oI (oI q1 4 (nI 2)) 5 (nI (sk tx len a0)), w), rfl, Or.inr ⟨_, 2, rfl, by repeat (first | exact rel.refl _ | exact rel.mono (by assumption) (by decide) (by decide) | refine rel.I (by decide) ?_ | refine rel.A (by decide) ?_ | refine rel.trans ?_ (rel.mono (by assumption) (by decide) (by decide))), hb1, e31, vF_2 hf1 (Nat.le_of_not_lt (fun q => hn10 _ q rfl)), by omega, by omega, rfl, rfl⟩, show PP G (rv G h (oI (oI q1 4 (nI 2)) 5 (nI (sk tx len a0))) w) t.heap by rw [ht]; exact hP⟩, hS.F ht⟩) hS.2.2 dX1_readVersionNumber_26
  · skip
    have hP : PP G (rv G h q1 w) H := hP
    have hD : va_D A (rv G h q1 w) := hD
    have htx1 : rwE (q1.2 0) tx len := by rw [hR1.2 0 (by decide)]; exact (htx)
    have hEg1 : a0 ≤ nE tx len a0 := nE_ge _ _ _
    have hEl1 : nE tx len a0 ≤ len := nE_le (by omega)
    refine lv_istore_n (lv' := [(1, .int r1), (0, .ref (h 0))]) hx hb dX1_readVersionNumber_4 rfl hl (by decide) rfl (fun ls hl => ?_)
    refine lv_aload_n hx hb dX1_readVersionNumber_5 rfl (lv_at hl 1 rfl) ?_
    refine va_get (D := gD G) (ci := 1) (v := .ref (h 10)) (C := RX1) (T := TX1) (N := 10) hx hb hts hiX1 hown hK hP 0 rfl rfl 9 (by decide) k44 (fun _ h9 => h9) rfl dX1_readVersionNumber_6 ?_
    refine lv_iload_n hx hb dX1_readVersionNumber_9 rfl (lv_at hl 0 rfl) ?_
    refine cRi (w := wv G (fun k => h (10 + k)) w) (As := [.int r1]) (rest := []) ⟨hx, hb, hml, hown, hts⟩ (mt_X3_hasVersion l G (fun k => h (10 + k)) w nv r1 (hnv) (by first | assumption | omega)) (cwV 1 hts gX1_readVersionNumber_X3_hasVersion rfl rfl rfl ⟨rfl, hd_X3_hasVersion⟩ ⟨Nat.le_of_ble_eq_true rfl, Nat.le_of_ble_eq_true rfl⟩) hK hN (hP.sub [4, 5, 6, 7, 8, 9, 10, 11] rfl) 0 3 rfl rfl rfl hl.1 rfl (Nat.le_of_ble_eq_true rfl) ⟨Nat.zero_le _, Nat.zero_le _⟩ dX1_readVersionNumber_10 (fun r10 hw10 => ?_)
    rcases hw10 with ⟨rfl, j10, hj10, ej10⟩ | ⟨rfl, hn10⟩
    · skip
      refine lv_if_ne (tgt := 25) hx hb dX1_readVersionNumber_13 (by decide) (fun _ => ?_) (fun c9 => absurd c9 (by decide))
      refine lv_iload_n hx hb dX1_readVersionNumber_25 rfl (lv_at hl 0 rfl) ?_
      exact W.iret (v := r1) hx hb hr (fun t ht hW => ⟨⟨r1, (q1, w), rfl, Or.inr ⟨_, f1, rfl, by repeat (first | exact rel.refl _ | exact rel.mono (by assumption) (by decide) (by decide) | refine rel.I (by decide) ?_ | refine rel.A (by decide) ?_ | refine rel.trans ?_ (rel.mono (by assumption) (by decide) (by decide))), hb1, e31, (vF_f (by omega)).trans hf1, hp1, hg1, e41, e51⟩, show PP G (rv G h q1 w) t.heap by rw [ht]; exact hP⟩, hS.F ht⟩) hS.2.2 dX1_readVersionNumber_26
    · skip
      refine lv_if_ne (tgt := 25) hx hb dX1_readVersionNumber_13 (by decide) (fun c9 => absurd (by decide) c9) (fun _ => ?_)
      refine lv_aload_n hx hb dX1_readVersionNumber_16 rfl (lv_at hl 1 rfl) ?_
      refine lv_iconst (v := nI 2) hx hb dX1_readVersionNumber_17 (by decide) ?_
      refine lv_aload_n hx hb dX1_readVersionNumber_18 rfl (lv_at hl 1 rfl) ?_
      refine va_get (D := gD G) (ci := 1) (v := .int (q1.1 3)) (C := RX1) (T := TX1) (N := 10) hx hb hts hiX1 hown hK hP 0 rfl rfl 3 (by decide) k22 (fun _ h9 => h9) rfl dX1_readVersionNumber_19 ?_
      refine topE e31 ?_
      refine cXv (As := [.int (nI 2), .int (nI (sk tx len a0))]) (rest := []) (S := oS × oS) (wa := rv G h q1 w) (w1 := fun v => rv G h v.1 v.2) ⟨hx, hb, hml, hown, hts⟩ (mt_X1_fail1 l G h _ q1 w f1 (nI 2) (nI (sk tx len a0)) (e41) (by first | assumption | omega) (by first | assumption | omega)) (cwV 2 hts gX1_readVersionNumber_X1_fail rfl rfl rfl ⟨rfl, hd_X1_fail⟩ ⟨Nat.le_of_ble_eq_true rfl, Nat.le_of_ble_eq_true rfl⟩) hK hN hP hD hS hA (fun _ => rfl) 0 1 rfl rfl rfl hl.1 rfl (Nat.le_of_ble_eq_true rfl) ⟨Nat.zero_le _, Nat.zero_le _⟩ dX1_readVersionNumber_22 (fun u22 H locs hw22 hP hD hS => ?_)
      obtain rfl := hw22
      have hP : PP G (rv G h q1 w) H := hP
      have hD : va_D A (rv G h q1 w) := hD
      refine lv_iload_n hx hb dX1_readVersionNumber_25 rfl (lv_at hl 0 rfl) ?_
      exact W.iret (v := r1) hx hb hr (fun t ht hW => ⟨⟨r1, (q1, w), rfl, Or.inr ⟨_, f1, rfl, by repeat (first | exact rel.refl _ | exact rel.mono (by assumption) (by decide) (by decide) | refine rel.I (by decide) ?_ | refine rel.A (by decide) ?_ | refine rel.trans ?_ (rel.mono (by assumption) (by decide) (by decide))), hb1, e31, (vF_f (by omega)).trans hf1, hp1, hg1, e41, e51⟩, show PP G (rv G h q1 w) t.heap by rw [ht]; exact hP⟩, hS.F ht⟩) hS.2.2 dX1_readVersionNumber_26
set_option maxHeartbeats 1000000 in
set_option maxRecDepth 100000 in
theorem mt_X1_readParent (l : Launch) (G : gG) (h : Nat → Nat) (sz : Nat) (rd : oS) (w : oS) (len : Nat) (a0 : Nat) (nv : Nat) (tx : Nat → Int32) (hlen : rd.1 1 = nI len) (ha0 : rd.1 2 = nI a0) (hnv : w.1 0 = nI nv) (hl240 : len ≤ 240) (hAn : a0 ≤ len) (hnv24 : nv ≤ 24) (htx : rwE (rd.2 0) tx len) (h40 : rd.1 4 = nI 0) : Met l yX1_readParent wsX1_readParent ({ frames := 2, cells := 0, slots := 0, locals := 43 }) (preW G (rv G h rd w) sz [.ref (h 0)]) (va_Qi (fun (r : Int32) (v : oS × oS) => (∃ q, v = (q, w) ∧ rel [2, 3] [] rd q ∧ q.1 2 = nI (nE tx len a0) ∧ nFl tx len a0 = 0 ∧ (nV tx len a0 = 99 ∨ nV tx len a0 < nv) ∧ r = if nV tx len a0 = 99 then -1 else nI (nV tx len a0)) ∨ (∃ q f, v = (q, w) ∧ rel [2, 3, 4, 5] [] rd q ∧ q.1 2 = nI (nE tx len a0) ∧ 0 < f ∧ f ≤ 2 ∧ q.1 4 = nI f ∧ q.1 5 = nI (sk tx len a0) ∧ (nFl tx len a0 = f ∨ (nFl tx len a0 = 0 ∧ f = 2 ∧ ¬ nV tx len a0 = 99 ∧ nv ≤ nV tx len a0)))) (fun v t => PP G (rv G h v.1 v.2) t.heap) (va_A (rv G h rd w) sz)) 0 0 (va_A (rv G h rd w) sz) := by
  refine Met.ofW (cc := cX1_readParent) (maxL := 2) (ret := (some .int)) (by decide) rfl ?_
  intro p e s m args below meth c s₁ B hml hv
  obtain ⟨ha, hsz, hP, hK, hN, hD0⟩ := hv
  subst ha
  have hx := B.exec
  have hb := B.bytes
  have hr := B.returns
  have hts := atoms_spec (ws := wsX1_readParent) B.pre
  have hown : s.vm.findClass RX1 = some m.cls := findClass_of_methodNamed B.named
  have hlocks := B.notSynchronized
  subst hsz
  have hD := hD0.self (sz := s.heap.size)
  generalize hAe : va_A (rv G h rd w) s.heap.size = A at hD ⊢
  have hA : ∀ q : Nat, s.heap.size ≤ q → A q := fun q h => by rw [← hAe]; exact Or.inr h
  clear hAe hD0
  have hS : va_S A s.heap s.heap [] := va_S.rf
  have hiX1 : ∀ w ∈ wsX10, w ∈ wsX1_readParent := fun w h9 => List.mem_cons_of_mem _ (List.mem_append_left _ (List.mem_append_right _ (h9)))
  have k44 := hts (.fieldLink RX1 44 "WovenHistory$Reader" "woven" "LWovenHistory$Weave;") (List.mem_of_getElem? (i := 1) rfl)
  have k22 := hts (.fieldLink RX1 22 "WovenHistory$Reader" "numberAt" "I") (List.mem_of_getElem? (i := 2) rfl)
  have hl := lv_entry ([.ref (h 0)]) (n := 2) (Nat.le_of_ble_eq_true rfl)
  rw [lg_entry_eq]
  generalize (lg_sl ([.ref (h 0)]) ++ List.replicate (2 - (lg_sl ([.ref (h 0)])).length) Slot.unset).toArray = ls at hl ⊢
  have hl : lv_has ls 2 [(0, .ref (h 0))] := hl
  refine lv_aload_n hx hb dX1_readParent_0 rfl (lv_at hl 0 rfl) ?_
  refine cXi (As := []) (rest := []) (S := oS × oS) (wa := rv G h rd w) (w1 := fun v => rv G h v.1 v.2) ⟨hx, hb, hml, hown, hts⟩ (mt_X1_readNumber l G h _ rd w len a0 tx (hlen) (ha0) (by first | assumption | omega) (by first | assumption | omega) (htx) (h40)) (cwV 0 hts gX1_readParent_X1_readNumber rfl rfl rfl ⟨rfl, hd_X1_readNumber⟩ ⟨Nat.le_of_ble_eq_true rfl, Nat.le_of_ble_eq_true rfl⟩) hK hN hP hD hS hA (fun _ => rfl) 0 1 rfl rfl rfl hl.1 rfl (Nat.le_of_ble_eq_true rfl) ⟨Nat.zero_le _, Nat.zero_le _⟩ dX1_readParent_1 (fun r1 u1 H locs hw1 hP hD hS => ?_)
  rcases hw1 with ⟨q1, rfl, hR1, hb1, e31, hf1, rfl⟩ | ⟨q1, f1, rfl, hR1, hb1, e31, hf1, hp1, hg1, e41, e51⟩
  · skip
    have hP : PP G (rv G h q1 w) H := hP
    have hD : va_D A (rv G h q1 w) := hD
    have htx1 : rwE (q1.2 0) tx len := by rw [hR1.2 0 (by decide)]; exact (htx)
    have hEg1 : a0 ≤ nE tx len a0 := nE_ge _ _ _
    have hEl1 : nE tx len a0 ≤ len := nE_le (by omega)
    have hV1 : nV tx len a0 ≤ 99 := nV_le hf1
    refine lv_istore_n (lv' := [(1, .int (nI (nV tx len a0))), (0, .ref (h 0))]) hx hb dX1_readParent_4 rfl hl (by decide) rfl (fun ls hl => ?_)
    refine lv_iload_n hx hb dX1_readParent_5 rfl (lv_at hl 0 rfl) ?_
    refine lv_bipush (v := nI 99) hx hb dX1_readParent_6 (by decide) ?_
    refine lv_icmp_eq (tgt := 31) hx hb dX1_readParent_8 (by decide) (fun c8 => ?_) (fun c8 => ?_)
    · skip
      have n8 : (nV tx len a0) = 99 := (nI_eq (a := nV tx len a0) (b := 99) (by omega) (by omega)).mp c8
      refine lv_iload_n hx hb dX1_readParent_31 rfl (lv_at hl 0 rfl) ?_
      refine lv_bipush (v := nI 99) hx hb dX1_readParent_32 (by decide) ?_
      refine lv_icmp_ne (tgt := 41) hx hb dX1_readParent_34 (by decide) (fun c34 => ?_) (fun c34 => ?_)
      · skip
        have n34 : ¬ ((nV tx len a0) = 99) := fun q9 => c34 ((nI_eq (a := nV tx len a0) (b := 99) (by omega) (by omega)).mpr q9)
        omega
      · skip
        have n34 : (nV tx len a0) = 99 := (nI_eq (a := nV tx len a0) (b := 99) (by omega) (by omega)).mp c34
        refine lv_iconst (v := (-1 : Int32)) hx hb dX1_readParent_37 (by decide) ?_
        refine lv_goto (tgt := 42) hx hb dX1_readParent_38 (by decide) ?_
        exact W.iret (v := (-1 : Int32)) hx hb hr (fun t ht hW => ⟨⟨(-1 : Int32), (q1, w), rfl, Or.inl ⟨_, rfl, by repeat (first | exact rel.refl _ | exact rel.mono (by assumption) (by decide) (by decide) | refine rel.I (by decide) ?_ | refine rel.A (by decide) ?_ | refine rel.trans ?_ (rel.mono (by assumption) (by decide) (by decide))), hb1, hf1, by omega, by first | rw [if_pos n8] | rw [if_neg n8]⟩, show PP G (rv G h q1 w) t.heap by rw [ht]; exact hP⟩, hS.F ht⟩) hS.2.2 dX1_readParent_42
    · skip
      have n8 : ¬ ((nV tx len a0) = 99) := fun q9 => c8 ((nI_eq (a := nV tx len a0) (b := 99) (by omega) (by omega)).mpr q9)
      refine lv_aload_n hx hb dX1_readParent_11 rfl (lv_at hl 1 rfl) ?_
      refine va_get (D := gD G) (ci := 1) (v := .ref (h 10)) (C := RX1) (T := TX1) (N := 10) hx hb hts hiX1 hown hK hP 0 rfl rfl 9 (by decide) k44 (fun _ h9 => h9) rfl dX1_readParent_12 ?_
      refine lv_iload_n hx hb dX1_readParent_15 rfl (lv_at hl 0 rfl) ?_
      refine cRi (w := wv G (fun k => h (10 + k)) w) (As := [.int (nI (nV tx len a0))]) (rest := []) ⟨hx, hb, hml, hown, hts⟩ (mt_X3_hasVersion l G (fun k => h (10 + k)) w nv (nI (nV tx len a0)) (hnv) (by first | assumption | omega)) (cwV 1 hts gX1_readParent_X3_hasVersion rfl rfl rfl ⟨rfl, hd_X3_hasVersion⟩ ⟨Nat.le_of_ble_eq_true rfl, Nat.le_of_ble_eq_true rfl⟩) hK hN (hP.sub [4, 5, 6, 7, 8, 9, 10, 11] rfl) 0 3 rfl rfl rfl hl.1 rfl (Nat.le_of_ble_eq_true rfl) ⟨Nat.zero_le _, Nat.zero_le _⟩ dX1_readParent_16 (fun r16 hw16 => ?_)
      rcases hw16 with ⟨rfl, j16, hj16, ej16⟩ | ⟨rfl, hn16⟩
      · skip
        have hVn : nV tx len a0 < nv := by have := nI_inj5 (by omega) (by omega) ej16; omega
        refine lv_if_ne (tgt := 31) hx hb dX1_readParent_19 (by decide) (fun _ => ?_) (fun c9 => absurd c9 (by decide))
        refine lv_iload_n hx hb dX1_readParent_31 rfl (lv_at hl 0 rfl) ?_
        refine lv_bipush (v := nI 99) hx hb dX1_readParent_32 (by decide) ?_
        refine lv_icmp_ne (tgt := 41) hx hb dX1_readParent_34 (by decide) (fun c34 => ?_) (fun c34 => ?_)
        · skip
          have n34 : ¬ ((nV tx len a0) = 99) := fun q9 => c34 ((nI_eq (a := nV tx len a0) (b := 99) (by omega) (by omega)).mpr q9)
          refine lv_iload_n hx hb dX1_readParent_41 rfl (lv_at hl 0 rfl) ?_
          exact W.iret (v := nI (nV tx len a0)) hx hb hr (fun t ht hW => ⟨⟨nI (nV tx len a0), (q1, w), rfl, Or.inl ⟨_, rfl, by repeat (first | exact rel.refl _ | exact rel.mono (by assumption) (by decide) (by decide) | refine rel.I (by decide) ?_ | refine rel.A (by decide) ?_ | refine rel.trans ?_ (rel.mono (by assumption) (by decide) (by decide))), hb1, hf1, by omega, by first | rw [if_pos n8] | rw [if_neg n8]⟩, show PP G (rv G h q1 w) t.heap by rw [ht]; exact hP⟩, hS.F ht⟩) hS.2.2 dX1_readParent_42
        · skip
          have n34 : (nV tx len a0) = 99 := (nI_eq (a := nV tx len a0) (b := 99) (by omega) (by omega)).mp c34
          omega
      · skip
        refine lv_if_ne (tgt := 31) hx hb dX1_readParent_19 (by decide) (fun c9 => absurd (by decide) c9) (fun _ => ?_)
        refine lv_aload_n hx hb dX1_readParent_22 rfl (lv_at hl 1 rfl) ?_
        refine lv_iconst (v := nI 2) hx hb dX1_readParent_23 (by decide) ?_
        refine lv_aload_n hx hb dX1_readParent_24 rfl (lv_at hl 1 rfl) ?_
        refine va_get (D := gD G) (ci := 1) (v := .int (q1.1 3)) (C := RX1) (T := TX1) (N := 10) hx hb hts hiX1 hown hK hP 0 rfl rfl 3 (by decide) k22 (fun _ h9 => h9) rfl dX1_readParent_25 ?_
        refine topE e31 ?_
        refine cXv (As := [.int (nI 2), .int (nI (sk tx len a0))]) (rest := []) (S := oS × oS) (wa := rv G h q1 w) (w1 := fun v => rv G h v.1 v.2) ⟨hx, hb, hml, hown, hts⟩ (mt_X1_fail0 l G h _ q1 w (nI 2) (nI (sk tx len a0)) ((hR1.1 4 (by decide)).trans (h40))) (cwV 2 hts gX1_readParent_X1_fail rfl rfl rfl ⟨rfl, hd_X1_fail⟩ ⟨Nat.le_of_ble_eq_true rfl, Nat.le_of_ble_eq_true rfl⟩) hK hN hP hD hS hA (fun _ => rfl) 0 1 rfl rfl rfl hl.1 rfl (Nat.le_of_ble_eq_true rfl) ⟨Nat.zero_le _, Nat.zero_le _⟩ dX1_readParent_28 (fun u28 H locs hw28 hP hD hS => ?_)
        obtain rfl := hw28
        have hP : PP G (rv G h (oI (oI q1 4 (nI 2)) 5 (nI (sk tx len a0))) w) H := hP
        have hD : va_D A (rv G h (oI (oI q1 4 (nI 2)) 5 (nI (sk tx len a0))) w) := hD
        refine lv_iload_n hx hb dX1_readParent_31 rfl (lv_at hl 0 rfl) ?_
        refine lv_bipush (v := nI 99) hx hb dX1_readParent_32 (by decide) ?_
        refine lv_icmp_ne (tgt := 41) hx hb dX1_readParent_34 (by decide) (fun c34 => ?_) (fun c34 => ?_)
        · skip
          have n34 : ¬ ((nV tx len a0) = 99) := fun q9 => c34 ((nI_eq (a := nV tx len a0) (b := 99) (by omega) (by omega)).mpr q9)
          refine lv_iload_n hx hb dX1_readParent_41 rfl (lv_at hl 0 rfl) ?_
          exact W.iret (v := nI (nV tx len a0)) hx hb hr (fun t ht hW => ⟨⟨nI (nV tx len a0), (oI (oI q1 4 (nI 2)) 5 (nI (sk tx len a0)), w), rfl, Or.inr ⟨_, 2, rfl, by repeat (first | exact rel.refl _ | exact rel.mono (by assumption) (by decide) (by decide) | refine rel.I (by decide) ?_ | refine rel.A (by decide) ?_ | refine rel.trans ?_ (rel.mono (by assumption) (by decide) (by decide))), hb1, by omega, by omega, rfl, rfl, Or.inr ⟨hf1, rfl, n8, Nat.le_of_not_lt (fun q => hn16 _ q rfl)⟩⟩, show PP G (rv G h (oI (oI q1 4 (nI 2)) 5 (nI (sk tx len a0))) w) t.heap by rw [ht]; exact hP⟩, hS.F ht⟩) hS.2.2 dX1_readParent_42
        · skip
          have n34 : (nV tx len a0) = 99 := (nI_eq (a := nV tx len a0) (b := 99) (by omega) (by omega)).mp c34
          refine lv_iconst (v := (-1 : Int32)) hx hb dX1_readParent_37 (by decide) ?_
          refine lv_goto (tgt := 42) hx hb dX1_readParent_38 (by decide) ?_
          exact W.iret (v := (-1 : Int32)) hx hb hr (fun t ht hW => ⟨⟨(-1 : Int32), (oI (oI q1 4 (nI 2)) 5 (nI (sk tx len a0)), w), rfl, Or.inr ⟨_, 2, rfl, by repeat (first | exact rel.refl _ | exact rel.mono (by assumption) (by decide) (by decide) | refine rel.I (by decide) ?_ | refine rel.A (by decide) ?_ | refine rel.trans ?_ (rel.mono (by assumption) (by decide) (by decide))), hb1, by omega, by omega, rfl, rfl, Or.inr ⟨hf1, rfl, n8, Nat.le_of_not_lt (fun q => hn16 _ q rfl)⟩⟩, show PP G (rv G h (oI (oI q1 4 (nI 2)) 5 (nI (sk tx len a0))) w) t.heap by rw [ht]; exact hP⟩, hS.F ht⟩) hS.2.2 dX1_readParent_42
  · skip
    have hP : PP G (rv G h q1 w) H := hP
    have hD : va_D A (rv G h q1 w) := hD
    have htx1 : rwE (q1.2 0) tx len := by rw [hR1.2 0 (by decide)]; exact (htx)
    have hEg1 : a0 ≤ nE tx len a0 := nE_ge _ _ _
    have hEl1 : nE tx len a0 ≤ len := nE_le (by omega)
    refine lv_istore_n (lv' := [(1, .int r1), (0, .ref (h 0))]) hx hb dX1_readParent_4 rfl hl (by decide) rfl (fun ls hl => ?_)
    refine lv_iload_n hx hb dX1_readParent_5 rfl (lv_at hl 0 rfl) ?_
    refine lv_bipush (v := nI 99) hx hb dX1_readParent_6 (by decide) ?_
    refine lv_icmp_eq (tgt := 31) hx hb dX1_readParent_8 (by decide) (fun c8 => ?_) (fun c8 => ?_)
    · skip
      refine lv_iload_n hx hb dX1_readParent_31 rfl (lv_at hl 0 rfl) ?_
      refine lv_bipush (v := nI 99) hx hb dX1_readParent_32 (by decide) ?_
      refine lv_icmp_ne (tgt := 41) hx hb dX1_readParent_34 (by decide) (fun c34 => ?_) (fun c34 => ?_)
      · skip
        refine lv_iload_n hx hb dX1_readParent_41 rfl (lv_at hl 0 rfl) ?_
        exact W.iret (v := r1) hx hb hr (fun t ht hW => ⟨⟨r1, (q1, w), rfl, Or.inr ⟨_, f1, rfl, by repeat (first | exact rel.refl _ | exact rel.mono (by assumption) (by decide) (by decide) | refine rel.I (by decide) ?_ | refine rel.A (by decide) ?_ | refine rel.trans ?_ (rel.mono (by assumption) (by decide) (by decide))), hb1, hp1, hg1, e41, e51, Or.inl hf1⟩, show PP G (rv G h q1 w) t.heap by rw [ht]; exact hP⟩, hS.F ht⟩) hS.2.2 dX1_readParent_42
      · skip
        refine lv_iconst (v := (-1 : Int32)) hx hb dX1_readParent_37 (by decide) ?_
        refine lv_goto (tgt := 42) hx hb dX1_readParent_38 (by decide) ?_
        exact W.iret (v := (-1 : Int32)) hx hb hr (fun t ht hW => ⟨⟨(-1 : Int32), (q1, w), rfl, Or.inr ⟨_, f1, rfl, by repeat (first | exact rel.refl _ | exact rel.mono (by assumption) (by decide) (by decide) | refine rel.I (by decide) ?_ | refine rel.A (by decide) ?_ | refine rel.trans ?_ (rel.mono (by assumption) (by decide) (by decide))), hb1, hp1, hg1, e41, e51, Or.inl hf1⟩, show PP G (rv G h q1 w) t.heap by rw [ht]; exact hP⟩, hS.F ht⟩) hS.2.2 dX1_readParent_42
    · skip
      refine lv_aload_n hx hb dX1_readParent_11 rfl (lv_at hl 1 rfl) ?_
      refine va_get (D := gD G) (ci := 1) (v := .ref (h 10)) (C := RX1) (T := TX1) (N := 10) hx hb hts hiX1 hown hK hP 0 rfl rfl 9 (by decide) k44 (fun _ h9 => h9) rfl dX1_readParent_12 ?_
      refine lv_iload_n hx hb dX1_readParent_15 rfl (lv_at hl 0 rfl) ?_
      refine cRi (w := wv G (fun k => h (10 + k)) w) (As := [.int r1]) (rest := []) ⟨hx, hb, hml, hown, hts⟩ (mt_X3_hasVersion l G (fun k => h (10 + k)) w nv r1 (hnv) (by first | assumption | omega)) (cwV 1 hts gX1_readParent_X3_hasVersion rfl rfl rfl ⟨rfl, hd_X3_hasVersion⟩ ⟨Nat.le_of_ble_eq_true rfl, Nat.le_of_ble_eq_true rfl⟩) hK hN (hP.sub [4, 5, 6, 7, 8, 9, 10, 11] rfl) 0 3 rfl rfl rfl hl.1 rfl (Nat.le_of_ble_eq_true rfl) ⟨Nat.zero_le _, Nat.zero_le _⟩ dX1_readParent_16 (fun r16 hw16 => ?_)
      rcases hw16 with ⟨rfl, j16, hj16, ej16⟩ | ⟨rfl, hn16⟩
      · skip
        refine lv_if_ne (tgt := 31) hx hb dX1_readParent_19 (by decide) (fun _ => ?_) (fun c9 => absurd c9 (by decide))
        refine lv_iload_n hx hb dX1_readParent_31 rfl (lv_at hl 0 rfl) ?_
        refine lv_bipush (v := nI 99) hx hb dX1_readParent_32 (by decide) ?_
        refine lv_icmp_ne (tgt := 41) hx hb dX1_readParent_34 (by decide) (fun c34 => ?_) (fun c34 => ?_)
        · skip
          refine lv_iload_n hx hb dX1_readParent_41 rfl (lv_at hl 0 rfl) ?_
          exact W.iret (v := r1) hx hb hr (fun t ht hW => ⟨⟨r1, (q1, w), rfl, Or.inr ⟨_, f1, rfl, by repeat (first | exact rel.refl _ | exact rel.mono (by assumption) (by decide) (by decide) | refine rel.I (by decide) ?_ | refine rel.A (by decide) ?_ | refine rel.trans ?_ (rel.mono (by assumption) (by decide) (by decide))), hb1, hp1, hg1, e41, e51, Or.inl hf1⟩, show PP G (rv G h q1 w) t.heap by rw [ht]; exact hP⟩, hS.F ht⟩) hS.2.2 dX1_readParent_42
        · skip
          refine lv_iconst (v := (-1 : Int32)) hx hb dX1_readParent_37 (by decide) ?_
          refine lv_goto (tgt := 42) hx hb dX1_readParent_38 (by decide) ?_
          exact W.iret (v := (-1 : Int32)) hx hb hr (fun t ht hW => ⟨⟨(-1 : Int32), (q1, w), rfl, Or.inr ⟨_, f1, rfl, by repeat (first | exact rel.refl _ | exact rel.mono (by assumption) (by decide) (by decide) | refine rel.I (by decide) ?_ | refine rel.A (by decide) ?_ | refine rel.trans ?_ (rel.mono (by assumption) (by decide) (by decide))), hb1, hp1, hg1, e41, e51, Or.inl hf1⟩, show PP G (rv G h q1 w) t.heap by rw [ht]; exact hP⟩, hS.F ht⟩) hS.2.2 dX1_readParent_42
      · skip
        refine lv_if_ne (tgt := 31) hx hb dX1_readParent_19 (by decide) (fun c9 => absurd (by decide) c9) (fun _ => ?_)
        refine lv_aload_n hx hb dX1_readParent_22 rfl (lv_at hl 1 rfl) ?_
        refine lv_iconst (v := nI 2) hx hb dX1_readParent_23 (by decide) ?_
        refine lv_aload_n hx hb dX1_readParent_24 rfl (lv_at hl 1 rfl) ?_
        refine va_get (D := gD G) (ci := 1) (v := .int (q1.1 3)) (C := RX1) (T := TX1) (N := 10) hx hb hts hiX1 hown hK hP 0 rfl rfl 3 (by decide) k22 (fun _ h9 => h9) rfl dX1_readParent_25 ?_
        refine topE e31 ?_
        refine cXv (As := [.int (nI 2), .int (nI (sk tx len a0))]) (rest := []) (S := oS × oS) (wa := rv G h q1 w) (w1 := fun v => rv G h v.1 v.2) ⟨hx, hb, hml, hown, hts⟩ (mt_X1_fail1 l G h _ q1 w f1 (nI 2) (nI (sk tx len a0)) (e41) (by first | assumption | omega) (by first | assumption | omega)) (cwV 2 hts gX1_readParent_X1_fail rfl rfl rfl ⟨rfl, hd_X1_fail⟩ ⟨Nat.le_of_ble_eq_true rfl, Nat.le_of_ble_eq_true rfl⟩) hK hN hP hD hS hA (fun _ => rfl) 0 1 rfl rfl rfl hl.1 rfl (Nat.le_of_ble_eq_true rfl) ⟨Nat.zero_le _, Nat.zero_le _⟩ dX1_readParent_28 (fun u28 H locs hw28 hP hD hS => ?_)
        obtain rfl := hw28
        have hP : PP G (rv G h q1 w) H := hP
        have hD : va_D A (rv G h q1 w) := hD
        refine lv_iload_n hx hb dX1_readParent_31 rfl (lv_at hl 0 rfl) ?_
        refine lv_bipush (v := nI 99) hx hb dX1_readParent_32 (by decide) ?_
        refine lv_icmp_ne (tgt := 41) hx hb dX1_readParent_34 (by decide) (fun c34 => ?_) (fun c34 => ?_)
        · skip
          refine lv_iload_n hx hb dX1_readParent_41 rfl (lv_at hl 0 rfl) ?_
          exact W.iret (v := r1) hx hb hr (fun t ht hW => ⟨⟨r1, (q1, w), rfl, Or.inr ⟨_, f1, rfl, by repeat (first | exact rel.refl _ | exact rel.mono (by assumption) (by decide) (by decide) | refine rel.I (by decide) ?_ | refine rel.A (by decide) ?_ | refine rel.trans ?_ (rel.mono (by assumption) (by decide) (by decide))), hb1, hp1, hg1, e41, e51, Or.inl hf1⟩, show PP G (rv G h q1 w) t.heap by rw [ht]; exact hP⟩, hS.F ht⟩) hS.2.2 dX1_readParent_42
        · skip
          refine lv_iconst (v := (-1 : Int32)) hx hb dX1_readParent_37 (by decide) ?_
          refine lv_goto (tgt := 42) hx hb dX1_readParent_38 (by decide) ?_
          exact W.iret (v := (-1 : Int32)) hx hb hr (fun t ht hW => ⟨⟨(-1 : Int32), (q1, w), rfl, Or.inr ⟨_, f1, rfl, by repeat (first | exact rel.refl _ | exact rel.mono (by assumption) (by decide) (by decide) | refine rel.I (by decide) ?_ | refine rel.A (by decide) ?_ | refine rel.trans ?_ (rel.mono (by assumption) (by decide) (by decide))), hb1, hp1, hg1, e41, e51, Or.inl hf1⟩, show PP G (rv G h q1 w) t.heap by rw [ht]; exact hP⟩, hS.F ht⟩) hS.2.2 dX1_readParent_42
set_option maxHeartbeats 1000000 in
set_option maxRecDepth 100000 in
theorem mt_X1_readOthers0 (l : Launch) (G : gG) (h : Nat → Nat) (sz : Nat) (rd : oS) (w : oS) (len : Nat) (a0 : Nat) (nv : Nat) (tx : Nat → Int32) (mk : Int32) (t0 : Int32) (hlen : rd.1 1 = nI len) (ha0 : rd.1 2 = nI a0) (hnv : w.1 0 = nI nv) (hl240 : len ≤ 240) (hAn : a0 ≤ len) (hnv23 : nv < 24) (htx : rwE (rd.2 0) tx len) (h40 : rd.1 4 = nI 0) (hsm : ¬ mk = -1) : Met l yX1_readOthers wsX1_readOthers ({ frames := 3, cells := 0, slots := 0, locals := 64 }) (preW G (rv G h rd w) sz [.ref (h 0), .int mk, .int t0]) (va_Qi (fun (r : Int32) (v : oS × oS) => (∃ q b x, v = (q, w) ∧ rel [2, 3] [] rd q ∧ q.1 2 = nI b ∧ a0 ≤ b ∧ b ≤ len ∧ oth tx len mk nv t0 a0 (nI 0) = (0, 0, b, x) ∧ r = x) ∨ (∃ q b f p e y, v = (q, w) ∧ rel [2, 3, 4, 5] [] rd q ∧ q.1 2 = nI b ∧ b ≤ len ∧ oth tx len mk nv t0 a0 (nI 0) = (f, p, e, y) ∧ q.1 4 = nI f ∧ q.1 5 = nI p ∧ 0 < f ∧ f ≤ 4)) (fun v t => PP G (rv G h v.1 v.2) t.heap) (va_A (rv G h rd w) sz)) 0 0 (va_A (rv G h rd w) sz) := by
  refine Met.ofW (cc := cX1_readOthers) (maxL := 6) (ret := (some .int)) (by decide) rfl ?_
  intro p e s m args below meth c s₁ B hml hv
  obtain ⟨ha, hsz, hP, hK, hN, hD0⟩ := hv
  subst ha
  have hx := B.exec
  have hb := B.bytes
  have hr := B.returns
  have hts := atoms_spec (ws := wsX1_readOthers) B.pre
  have hown : s.vm.findClass RX1 = some m.cls := findClass_of_methodNamed B.named
  have hlocks := B.notSynchronized
  subst hsz
  have hD := hD0.self (sz := s.heap.size)
  generalize hAe : va_A (rv G h rd w) s.heap.size = A at hD ⊢
  have hA : ∀ q : Nat, s.heap.size ≤ q → A q := fun q h => by rw [← hAe]; exact Or.inr h
  clear hAe hD0
  have hS : va_S A s.heap s.heap [] := va_S.rf
  have hiX1 : ∀ w ∈ wsX10, w ∈ wsX1_readOthers := fun w h9 => List.mem_cons_of_mem _ (List.mem_append_left _ (List.mem_append_right _ (h9)))
  have k19 := hts (.fieldLink RX1 19 "WovenHistory$Reader" "at" "I") (List.mem_of_getElem? (i := 1) rfl)
  have k22 := hts (.fieldLink RX1 22 "WovenHistory$Reader" "numberAt" "I") (List.mem_of_getElem? (i := 2) rfl)
  have hl := lv_entry ([.ref (h 0), .int mk, .int t0]) (n := 6) (Nat.le_of_ble_eq_true rfl)
  rw [lg_entry_eq]
  generalize (lg_sl ([.ref (h 0), .int mk, .int t0]) ++ List.replicate (6 - (lg_sl ([.ref (h 0), .int mk, .int t0])).length) Slot.unset).toArray = ls at hl ⊢
  have hl : lv_has ls 6 [(0, .ref (h 0)), (1, .int mk), (2, .int t0)] := hl
  refine lv_iconst (v := nI 0) hx hb dX1_readOthers_0 (by decide) ?_
  refine lv_istore_n (lv' := [(3, .int (nI 0)), (0, .ref (h 0)), (1, .int mk), (2, .int t0)]) hx hb dX1_readOthers_1 rfl hl (by decide) rfl (fun ls hl => ?_)
  refine lv_iconst (v := nI 0) hx hb dX1_readOthers_2 (by decide) ?_
  refine lv_istore (lv' := [(4, .int (nI 0)), (3, .int (nI 0)), (0, .ref (h 0)), (1, .int mk), (2, .int t0)]) hx hb dX1_readOthers_3 hl (by decide) rfl (fun ls hl => ?_)
  have LP5 : ∀ (n5m : Nat), ∀ (k : Nat) (q : oS) (b : Nat) (x : Int32) (fz : Nat) (hk : k ≤ 25) (hR : rel [2, 3, 4, 5] [] rd q) (hbq : q.1 2 = nI b) (hab : a0 ≤ b) (hbn : b ≤ len) (htx_q : rwE (q.2 0) tx len) (hbz : q.1 4 = nI fz) (hf4 : fz ≤ 4) (hF0 : fz = 0 → oth tx len mk nv t0 b x = oth tx len mk nv t0 a0 (nI 0) ∧ rel [2, 3] [] rd q ∧ cnt (bt x) nv = k) (hF1 : ¬ fz = 0 → ∃ p e y, oth tx len mk nv t0 a0 (nI 0) = (fz, p, e, y) ∧ q.1 5 = nI p), (25 - k < n5m) → ∀ (H : Heap) (locs : List Loc) (ls : Array Slot), PP G (rv G h q w) H → va_D A (rv G h q w) → va_S A s.heap H locs → lv_has ls 6 [(0, .ref (h 0)), (1, .int mk), (2, .int t0), (3, .int x), (4, .int (nI k))] → W p l e (headSpec wsX1_readOthers ({ frames := 3, cells := 0, slots := 0, locals := 64 })).room s m ([.ref (h 0), .int mk, .int t0] : List Value).toArray below meth c H locs 0 0 (MQ below (va_Qi (fun (r : Int32) (v : oS × oS) => (∃ q b x, v = (q, w) ∧ rel [2, 3] [] rd q ∧ q.1 2 = nI b ∧ a0 ≤ b ∧ b ≤ len ∧ oth tx len mk nv t0 a0 (nI 0) = (0, 0, b, x) ∧ r = x) ∨ (∃ q b f p e y, v = (q, w) ∧ rel [2, 3, 4, 5] [] rd q ∧ q.1 2 = nI b ∧ b ≤ len ∧ oth tx len mk nv t0 a0 (nI 0) = (f, p, e, y) ∧ q.1 4 = nI f ∧ q.1 5 = nI p ∧ 0 < f ∧ f ≤ 4)) (fun v t => PP G (rv G h v.1 v.2) t.heap) A) ([.ref (h 0), .int mk, .int t0] : List Value).toArray s 0 0 A) (F0 m 5 ls []) := by
    intro n5m
    induction n5m with
    | zero => intro k q b x fz hk hR hbq hab hbn htx_q hbz hf4 hF0 hF1 hmu H locs ls hP hD hS hl; exact absurd hmu (Nat.not_lt_zero _)
    | succ n5m ih5 =>
      intro k q b x fz hk hR hbq hab hbn htx_q hbz hf4 hF0 hF1 hmu H locs ls hP hD hS hl
      refine lv_iload hx hb dX1_readOthers_5 (lv_at hl 4 rfl) ?_
      refine lv_bipush (v := nI 24) hx hb dX1_readOthers_7 (by decide) ?_
      refine lv_icmp_gt (tgt := 70) hx hb dX1_readOthers_9 (by decide) (fun c9 => ?_) (fun c9 => ?_)
      · skip
        have n9 : 24 < k := (nI_ltI (a := 24) (b := k) (by omega) (by omega)).mp c9
        have hz : ¬ fz = 0 := fun q => by have h1 := (hF0 q).2.2; have h2 := cnt_le (bt x) nv; omega
        refine lv_iload_n hx hb dX1_readOthers_70 rfl (lv_at hl 3 rfl) ?_
        exact W.iret (v := x) hx hb hr (fun t ht hW => ⟨⟨x, (q, w), rfl, by obtain ⟨p9, e9, y9, h9, h10⟩ := hF1 hz; exact Or.inr ⟨q, b, fz, p9, e9, y9, rfl, hR, hbq, hbn, h9, hbz, h10, by omega, hf4⟩, show PP G (rv G h q w) t.heap by rw [ht]; exact hP⟩, hS.F ht⟩) hS.2.2 dX1_readOthers_71
      · skip
        have n9 : ¬ (24 < k) := fun q9 => c9 ((nI_ltI (a := 24) (b := k) (by omega) (by omega)).mpr q9)
        rcases Nat.eq_zero_or_pos fz with hz | hz
        · skip
          subst hz
          obtain ⟨hO, hR0, hcb⟩ := hF0 rfl
          refine lv_aload_n hx hb dX1_readOthers_12 rfl (lv_at hl 0 rfl) ?_
          refine cXi (As := []) (rest := []) (S := oS × oS) (wa := rv G h q w) (w1 := fun v => rv G h v.1 v.2) ⟨hx, hb, hml, hown, hts⟩ (mt_X1_nextSign0 l G h _ q w len b tx ((hR.1 1 (by decide)).trans hlen) (hbq) (by first | assumption | omega) (by first | assumption | omega) (htx_q) (hbz)) (cwV 0 hts gX1_readOthers_X1_nextSign rfl rfl rfl ⟨rfl, hd_X1_nextSign⟩ ⟨Nat.le_of_ble_eq_true rfl, Nat.le_of_ble_eq_true rfl⟩) hK hN hP hD hS hA (fun _ => rfl) 0 1 rfl rfl rfl hl.1 rfl (Nat.le_of_ble_eq_true rfl) ⟨Nat.zero_le _, Nat.zero_le _⟩ dX1_readOthers_13 (fun r13 u13 H locs hw13 hP hD hS => ?_)
          obtain ⟨rfl, rfl⟩ := hw13
          have hP : PP G (rv G h (oI q 2 (nI (sk tx len b))) w) H := hP
          have hD : va_D A (rv G h (oI q 2 (nI (sk tx len b))) w) := hD
          have hge13 : b ≤ sk tx len b := rn_ge _
          have hle13 : sk tx len b ≤ len := rn_le (by omega)
          refine lv_iload_n hx hb dX1_readOthers_16 rfl (lv_at hl 1 rfl) ?_
          refine lv_icmp_ne (tgt := 70) hx hb dX1_readOthers_17 (by decide) (fun c17 => ?_) (fun c17 => ?_)
          · skip
            refine lv_iload_n hx hb dX1_readOthers_70 rfl (lv_at hl 3 rfl) ?_
            exact W.iret (v := x) hx hb hr (fun t ht hW => ⟨⟨x, (oI q 2 (nI (sk tx len b)), w), rfl, Or.inl ⟨_, sk tx len b, x, rfl, by repeat (first | exact rel.refl _ | exact rel.mono (by assumption) (by decide) (by decide) | refine rel.I (by decide) ?_ | refine rel.A (by decide) ?_ | refine rel.trans ?_ (rel.mono (by assumption) (by decide) (by decide))), rfl, by omega, by omega, hO.symm.trans (oth_e c17 (by omega)), rfl⟩, show PP G (rv G h (oI q 2 (nI (sk tx len b))) w) t.heap by rw [ht]; exact hP⟩, hS.F ht⟩) hS.2.2 dX1_readOthers_71
          · skip
            have hbl := hd_c c17 hsm
            refine lv_aload_n hx hb dX1_readOthers_20 rfl (lv_at hl 0 rfl) ?_
            refine lv_dup hx hb dX1_readOthers_21 rfl ?_
            refine va_get (D := gD G) (ci := 1) (v := .int (nI (sk tx len b))) (C := RX1) (T := TX1) (N := 10) hx hb hts hiX1 hown hK hP 0 rfl rfl 2 (by decide) k19 (fun _ h9 => h9) rfl dX1_readOthers_22 ?_
            refine lv_iconst (v := nI 1) hx hb dX1_readOthers_25 (by decide) ?_
            refine lv_iadd hx hb dX1_readOthers_26 ?_
            refine topE (y := nI ((sk tx len b) + 1)) (nI_add (sk tx len b) 1) ?_
            refine va_put (D := gD G) (ci := 1) (v := .int (nI ((sk tx len b) + 1))) (ty := .int) (C := RX1) (T := TX1) (N := 10) hx hb hts hiX1 tyX1 tyX1_ok nmX1 hown hK hP hD hS 0 rfl rfl 2 (by decide) k19 (fun _ h9 => h9) rfl (tyX1_ok 2 (by decide)) (rfl) (rfl) (Nat.le_of_ble_eq_true rfl) dX1_readOthers_27 (fun H locs hP hD hS => ?_)
            have hP : PP G (rv G h (oI (oI q 2 (nI (sk tx len b))) 2 (nI ((sk tx len b) + 1))) w) H := hP
            have hD : va_D A (rv G h (oI (oI q 2 (nI (sk tx len b))) 2 (nI ((sk tx len b) + 1))) w) := hD
            refine lv_aload_n hx hb dX1_readOthers_30 rfl (lv_at hl 0 rfl) ?_
            refine cXi (As := []) (rest := []) (S := oS × oS) (wa := rv G h (oI (oI q 2 (nI (sk tx len b))) 2 (nI ((sk tx len b) + 1))) w) (w1 := fun v => rv G h v.1 v.2) ⟨hx, hb, hml, hown, hts⟩ (mt_X1_readVersionNumber l G h _ (oI (oI q 2 (nI (sk tx len b))) 2 (nI ((sk tx len b) + 1))) w len ((sk tx len b) + 1) nv tx ((hR.1 1 (by decide)).trans hlen) (rfl) (hnv) (by first | assumption | omega) (by first | assumption | omega) (by first | assumption | omega) (htx_q) (hbz)) (cwV 0 hts gX1_readOthers_X1_readVersionNumber rfl rfl rfl ⟨rfl, hd_X1_readVersionNumber⟩ ⟨Nat.le_of_ble_eq_true rfl, Nat.le_of_ble_eq_true rfl⟩) hK hN hP hD hS hA (fun _ => rfl) 0 1 rfl rfl rfl hl.1 rfl (Nat.le_of_ble_eq_true rfl) ⟨Nat.zero_le _, Nat.zero_le _⟩ dX1_readOthers_31 (fun r31 u31 H locs hw31 hP hD hS => ?_)
            rcases hw31 with ⟨q31, rfl, hR31, hb31, e331, hf31, rfl⟩ | ⟨q31, f31, rfl, hR31, hb31, e331, hf31, hp31, hg31, e431, e531⟩
            · skip
              have hP : PP G (rv G h q31 w) H := hP
              have hD : va_D A (rv G h q31 w) := hD
              have htx31 : rwE (q31.2 0) tx len := by rw [hR31.2 0 (by decide)]; exact (htx_q)
              have hEg31 : ((sk tx len b) + 1) ≤ nE tx len ((sk tx len b) + 1) := nE_ge _ _ _
              have hEl31 : nE tx len ((sk tx len b) + 1) ≤ len := nE_le (by omega)
              have hV31 := (vF_ok hf31).2
              refine lv_istore (lv' := [(5, .int (nI (nV tx len ((sk tx len b) + 1)))), (0, .ref (h 0)), (1, .int mk), (2, .int t0), (3, .int x), (4, .int (nI k))]) hx hb dX1_readOthers_34 hl (by decide) rfl (fun ls hl => ?_)
              refine lv_iload_n hx hb dX1_readOthers_36 rfl (lv_at hl 3 rfl) ?_
              refine lv_iload_n hx hb dX1_readOthers_37 rfl (lv_at hl 4 rfl) ?_
              refine lv_ior hx hb dX1_readOthers_38 ?_
              refine lv_iload hx hb dX1_readOthers_39 (lv_at hl 0 rfl) ?_
              refine cSi (As := [.int (t0 ||| x), .int (nI (nV tx len ((sk tx len b) + 1)))]) (rest := []) ⟨hx, hb, hml, hown, hts⟩ (mt_X3_holdsF l (t0 ||| x) (nI (nV tx len ((sk tx len b) + 1)))) (va_cwS 2 hts gX1_readOthers_X3_holds rfl rfl rfl hd_X3_holds ⟨Nat.le_of_ble_eq_true rfl, Nat.le_of_ble_eq_true rfl⟩) rfl hl.1 rfl (Nat.le_of_ble_eq_true rfl) ⟨Nat.zero_le _, Nat.zero_le _⟩ dX1_readOthers_41 (fun r41 hw41 => ?_)
              rcases hw41 with ⟨rfl, hy41⟩ | ⟨rfl, hn41⟩
              · skip
                refine lv_if_eq (tgt := 56) hx hb dX1_readOthers_44 (by decide) (fun c9 => absurd c9 (by decide)) (fun _ => ?_)
                refine lv_aload_n hx hb dX1_readOthers_47 rfl (lv_at hl 1 rfl) ?_
                refine lv_iconst (v := nI 4) hx hb dX1_readOthers_48 (by decide) ?_
                refine lv_aload_n hx hb dX1_readOthers_49 rfl (lv_at hl 1 rfl) ?_
                refine va_get (D := gD G) (ci := 1) (v := .int (q31.1 3)) (C := RX1) (T := TX1) (N := 10) hx hb hts hiX1 hown hK hP 0 rfl rfl 3 (by decide) k22 (fun _ h9 => h9) rfl dX1_readOthers_50 ?_
                refine topE e331 ?_
                refine cXv (As := [.int (nI 4), .int (nI (sk tx len ((sk tx len b) + 1)))]) (rest := []) (S := oS × oS) (wa := rv G h q31 w) (w1 := fun v => rv G h v.1 v.2) ⟨hx, hb, hml, hown, hts⟩ (mt_X1_fail0 l G h _ q31 w (nI 4) (nI (sk tx len ((sk tx len b) + 1))) ((hR31.1 4 (by decide)).trans (hbz))) (cwV 2 hts gX1_readOthers_X1_fail rfl rfl rfl ⟨rfl, hd_X1_fail⟩ ⟨Nat.le_of_ble_eq_true rfl, Nat.le_of_ble_eq_true rfl⟩) hK hN hP hD hS hA (fun _ => rfl) 0 1 rfl rfl rfl hl.1 rfl (Nat.le_of_ble_eq_true rfl) ⟨Nat.zero_le _, Nat.zero_le _⟩ dX1_readOthers_53 (fun u53 H locs hw53 hP hD hS => ?_)
                obtain rfl := hw53
                have hP : PP G (rv G h (oI (oI q31 4 (nI 4)) 5 (nI (sk tx len ((sk tx len b) + 1)))) w) H := hP
                have hD : va_D A (rv G h (oI (oI q31 4 (nI 4)) 5 (nI (sk tx len ((sk tx len b) + 1)))) w) := hD
                refine lv_iload_n hx hb dX1_readOthers_56 rfl (lv_at hl 4 rfl) ?_
                refine lv_iload hx hb dX1_readOthers_57 (lv_at hl 0 rfl) ?_
                refine cSi (As := [.int (nI (nV tx len ((sk tx len b) + 1)))]) (rest := [.int x]) ⟨hx, hb, hml, hown, hts⟩ (mt_X3_onlyF l (nI (nV tx len ((sk tx len b) + 1)))) (va_cwS 1 hts gX1_readOthers_X3_only rfl rfl rfl hd_X3_only ⟨Nat.le_of_ble_eq_true rfl, Nat.le_of_ble_eq_true rfl⟩) rfl hl.1 rfl (Nat.le_of_ble_eq_true rfl) ⟨Nat.zero_le _, Nat.zero_le _⟩ dX1_readOthers_59 (fun r59 hw59 => ?_)
                obtain rfl := hw59
                refine topE (onl_n (v := nV tx len (sk tx len b + 1)) (by omega)) ?_
                refine lv_ior hx hb dX1_readOthers_62 ?_
                refine lv_istore_n (lv' := [(3, .int (x ||| ((1 : Int32) <<< (nI (nV tx len (sk tx len b + 1)) &&& 31)))), (5, .int (nI (nV tx len ((sk tx len b) + 1)))), (0, .ref (h 0)), (1, .int mk), (2, .int t0), (4, .int (nI k))]) hx hb dX1_readOthers_63 rfl hl (by decide) rfl (fun ls hl => ?_)
                refine lv_iinc (v := nI (k + 1)) (lv' := [(4, .int (nI (k + 1))), (3, .int (x ||| ((1 : Int32) <<< (nI (nV tx len (sk tx len b + 1)) &&& 31)))), (5, .int (nI (nV tx len ((sk tx len b) + 1)))), (0, .ref (h 0)), (1, .int mk), (2, .int t0)]) hx hb dX1_readOthers_64 hl (k := 5) rfl (nI_1 k) (by decide) rfl (fun ls hl => ?_)
                refine lv_goto (tgt := 5) hx hb dX1_readOthers_67 (by decide) ?_
                exact ih5 (k + 1) (oI (oI q31 4 (nI 4)) 5 (nI (sk tx len ((sk tx len b) + 1)))) (nE tx len ((sk tx len b) + 1)) (x ||| ((1 : Int32) <<< (nI (nV tx len (sk tx len b + 1)) &&& 31))) 4 (by first | assumption | omega) (by repeat (first | exact rel.refl _ | exact rel.mono (by assumption) (by decide) (by decide) | refine rel.I (by decide) ?_ | refine rel.A (by decide) ?_ | refine rel.trans ?_ (rel.mono (by assumption) (by decide) (by decide)))) (hb31) (by first | assumption | omega) (by first | assumption | omega) (htx31) (rfl) (by first | assumption | omega) (fun q => absurd q (by omega)) (fun _ => ⟨sk tx len (sk tx len b + 1), nE tx len (sk tx len b + 1), x, hO.symm.trans (oth_4 c17 hf31 (hol_t hy41 (by omega) rfl) (by omega)), rfl⟩) (by omega) _ _ ls hP hD hS (lv_sub hl [3, 4, 5, 1, 0] rfl)
              · skip
                refine lv_if_eq (tgt := 56) hx hb dX1_readOthers_44 (by decide) (fun _ => ?_) (fun c9 => absurd (by decide) c9)
                refine lv_iload_n hx hb dX1_readOthers_56 rfl (lv_at hl 4 rfl) ?_
                refine lv_iload hx hb dX1_readOthers_57 (lv_at hl 0 rfl) ?_
                refine cSi (As := [.int (nI (nV tx len ((sk tx len b) + 1)))]) (rest := [.int x]) ⟨hx, hb, hml, hown, hts⟩ (mt_X3_onlyF l (nI (nV tx len ((sk tx len b) + 1)))) (va_cwS 1 hts gX1_readOthers_X3_only rfl rfl rfl hd_X3_only ⟨Nat.le_of_ble_eq_true rfl, Nat.le_of_ble_eq_true rfl⟩) rfl hl.1 rfl (Nat.le_of_ble_eq_true rfl) ⟨Nat.zero_le _, Nat.zero_le _⟩ dX1_readOthers_59 (fun r59 hw59 => ?_)
                obtain rfl := hw59
                refine topE (onl_n (v := nV tx len (sk tx len b + 1)) (by omega)) ?_
                refine lv_ior hx hb dX1_readOthers_62 ?_
                refine lv_istore_n (lv' := [(3, .int (x ||| ((1 : Int32) <<< (nI (nV tx len (sk tx len b + 1)) &&& 31)))), (5, .int (nI (nV tx len ((sk tx len b) + 1)))), (0, .ref (h 0)), (1, .int mk), (2, .int t0), (4, .int (nI k))]) hx hb dX1_readOthers_63 rfl hl (by decide) rfl (fun ls hl => ?_)
                refine lv_iinc (v := nI (k + 1)) (lv' := [(4, .int (nI (k + 1))), (3, .int (x ||| ((1 : Int32) <<< (nI (nV tx len (sk tx len b + 1)) &&& 31)))), (5, .int (nI (nV tx len ((sk tx len b) + 1)))), (0, .ref (h 0)), (1, .int mk), (2, .int t0)]) hx hb dX1_readOthers_64 hl (k := 5) rfl (nI_1 k) (by decide) rfl (fun ls hl => ?_)
                refine lv_goto (tgt := 5) hx hb dX1_readOthers_67 (by decide) ?_
                exact ih5 (k + 1) q31 (nE tx len ((sk tx len b) + 1)) (x ||| ((1 : Int32) <<< (nI (nV tx len (sk tx len b + 1)) &&& 31))) 0 (by first | assumption | omega) (by repeat (first | exact rel.refl _ | exact rel.mono (by assumption) (by decide) (by decide) | refine rel.I (by decide) ?_ | refine rel.A (by decide) ?_ | refine rel.trans ?_ (rel.mono (by assumption) (by decide) (by decide)))) (hb31) (by first | assumption | omega) (by first | assumption | omega) (htx31) ((hR31.1 4 (by decide)).trans (hbz)) (by first | assumption | omega) (fun _ => ⟨(oth_s hsm c17 hf31 (hol_f hn41 (by omega) rfl) (by omega)).trans hO, by repeat (first | exact rel.refl _ | exact rel.mono (by assumption) (by decide) (by decide) | refine rel.I (by decide) ?_ | refine rel.A (by decide) ?_ | refine rel.trans ?_ (rel.mono (by assumption) (by decide) (by decide))), by rw [cnt_b1 (by omega) (by omega) (hasb_orn (by omega) (hol_f hn41 (by omega) rfl)), hcb]⟩) (fun q => absurd rfl q) (by omega) _ _ ls hP hD hS (lv_sub hl [3, 4, 5, 1, 0] rfl)
            · skip
              have hP : PP G (rv G h q31 w) H := hP
              have hD : va_D A (rv G h q31 w) := hD
              have htx31 : rwE (q31.2 0) tx len := by rw [hR31.2 0 (by decide)]; exact (htx_q)
              have hEg31 : ((sk tx len b) + 1) ≤ nE tx len ((sk tx len b) + 1) := nE_ge _ _ _
              have hEl31 : nE tx len ((sk tx len b) + 1) ≤ len := nE_le (by omega)
              refine lv_istore (lv' := [(5, .int r31), (0, .ref (h 0)), (1, .int mk), (2, .int t0), (3, .int x), (4, .int (nI k))]) hx hb dX1_readOthers_34 hl (by decide) rfl (fun ls hl => ?_)
              refine lv_iload_n hx hb dX1_readOthers_36 rfl (lv_at hl 3 rfl) ?_
              refine lv_iload_n hx hb dX1_readOthers_37 rfl (lv_at hl 4 rfl) ?_
              refine lv_ior hx hb dX1_readOthers_38 ?_
              refine lv_iload hx hb dX1_readOthers_39 (lv_at hl 0 rfl) ?_
              refine cSi (As := [.int (t0 ||| x), .int r31]) (rest := []) ⟨hx, hb, hml, hown, hts⟩ (mt_X3_holdsF l (t0 ||| x) r31) (va_cwS 2 hts gX1_readOthers_X3_holds rfl rfl rfl hd_X3_holds ⟨Nat.le_of_ble_eq_true rfl, Nat.le_of_ble_eq_true rfl⟩) rfl hl.1 rfl (Nat.le_of_ble_eq_true rfl) ⟨Nat.zero_le _, Nat.zero_le _⟩ dX1_readOthers_41 (fun r41 hw41 => ?_)
              rcases hw41 with ⟨rfl, hy41⟩ | ⟨rfl, hn41⟩
              · skip
                refine lv_if_eq (tgt := 56) hx hb dX1_readOthers_44 (by decide) (fun c9 => absurd c9 (by decide)) (fun _ => ?_)
                refine lv_aload_n hx hb dX1_readOthers_47 rfl (lv_at hl 1 rfl) ?_
                refine lv_iconst (v := nI 4) hx hb dX1_readOthers_48 (by decide) ?_
                refine lv_aload_n hx hb dX1_readOthers_49 rfl (lv_at hl 1 rfl) ?_
                refine va_get (D := gD G) (ci := 1) (v := .int (q31.1 3)) (C := RX1) (T := TX1) (N := 10) hx hb hts hiX1 hown hK hP 0 rfl rfl 3 (by decide) k22 (fun _ h9 => h9) rfl dX1_readOthers_50 ?_
                refine topE e331 ?_
                refine cXv (As := [.int (nI 4), .int (nI (sk tx len ((sk tx len b) + 1)))]) (rest := []) (S := oS × oS) (wa := rv G h q31 w) (w1 := fun v => rv G h v.1 v.2) ⟨hx, hb, hml, hown, hts⟩ (mt_X1_fail1 l G h _ q31 w f31 (nI 4) (nI (sk tx len ((sk tx len b) + 1))) (e431) (by first | assumption | omega) (by first | assumption | omega)) (cwV 2 hts gX1_readOthers_X1_fail rfl rfl rfl ⟨rfl, hd_X1_fail⟩ ⟨Nat.le_of_ble_eq_true rfl, Nat.le_of_ble_eq_true rfl⟩) hK hN hP hD hS hA (fun _ => rfl) 0 1 rfl rfl rfl hl.1 rfl (Nat.le_of_ble_eq_true rfl) ⟨Nat.zero_le _, Nat.zero_le _⟩ dX1_readOthers_53 (fun u53 H locs hw53 hP hD hS => ?_)
                obtain rfl := hw53
                have hP : PP G (rv G h q31 w) H := hP
                have hD : va_D A (rv G h q31 w) := hD
                refine lv_iload_n hx hb dX1_readOthers_56 rfl (lv_at hl 4 rfl) ?_
                refine lv_iload hx hb dX1_readOthers_57 (lv_at hl 0 rfl) ?_
                refine cSi (As := [.int r31]) (rest := [.int x]) ⟨hx, hb, hml, hown, hts⟩ (mt_X3_onlyF l r31) (va_cwS 1 hts gX1_readOthers_X3_only rfl rfl rfl hd_X3_only ⟨Nat.le_of_ble_eq_true rfl, Nat.le_of_ble_eq_true rfl⟩) rfl hl.1 rfl (Nat.le_of_ble_eq_true rfl) ⟨Nat.zero_le _, Nat.zero_le _⟩ dX1_readOthers_59 (fun r59 hw59 => ?_)
                obtain rfl := hw59
                refine lv_ior hx hb dX1_readOthers_62 ?_
                refine lv_istore_n (lv' := [(3, .int (x ||| (onl r31))), (5, .int r31), (0, .ref (h 0)), (1, .int mk), (2, .int t0), (4, .int (nI k))]) hx hb dX1_readOthers_63 rfl hl (by decide) rfl (fun ls hl => ?_)
                refine lv_iinc (v := nI (k + 1)) (lv' := [(4, .int (nI (k + 1))), (3, .int (x ||| (onl r31))), (5, .int r31), (0, .ref (h 0)), (1, .int mk), (2, .int t0)]) hx hb dX1_readOthers_64 hl (k := 5) rfl (nI_1 k) (by decide) rfl (fun ls hl => ?_)
                refine lv_goto (tgt := 5) hx hb dX1_readOthers_67 (by decide) ?_
                exact ih5 (k + 1) q31 (nE tx len ((sk tx len b) + 1)) (x ||| (onl r31)) f31 (by first | assumption | omega) (by repeat (first | exact rel.refl _ | exact rel.mono (by assumption) (by decide) (by decide) | refine rel.I (by decide) ?_ | refine rel.A (by decide) ?_ | refine rel.trans ?_ (rel.mono (by assumption) (by decide) (by decide)))) (hb31) (by first | assumption | omega) (by first | assumption | omega) (htx31) (e431) (by first | assumption | omega) (fun q => absurd q (by omega)) (fun _ => ⟨sk tx len (sk tx len b + 1), nE tx len (sk tx len b + 1), x, hO.symm.trans ((oth_f c17 (by omega) (by omega)).trans (by rw [hf31])), e531⟩) (by omega) _ _ ls hP hD hS (lv_sub hl [3, 4, 5, 1, 0] rfl)
              · skip
                refine lv_if_eq (tgt := 56) hx hb dX1_readOthers_44 (by decide) (fun _ => ?_) (fun c9 => absurd (by decide) c9)
                refine lv_iload_n hx hb dX1_readOthers_56 rfl (lv_at hl 4 rfl) ?_
                refine lv_iload hx hb dX1_readOthers_57 (lv_at hl 0 rfl) ?_
                refine cSi (As := [.int r31]) (rest := [.int x]) ⟨hx, hb, hml, hown, hts⟩ (mt_X3_onlyF l r31) (va_cwS 1 hts gX1_readOthers_X3_only rfl rfl rfl hd_X3_only ⟨Nat.le_of_ble_eq_true rfl, Nat.le_of_ble_eq_true rfl⟩) rfl hl.1 rfl (Nat.le_of_ble_eq_true rfl) ⟨Nat.zero_le _, Nat.zero_le _⟩ dX1_readOthers_59 (fun r59 hw59 => ?_)
                obtain rfl := hw59
                refine lv_ior hx hb dX1_readOthers_62 ?_
                refine lv_istore_n (lv' := [(3, .int (x ||| (onl r31))), (5, .int r31), (0, .ref (h 0)), (1, .int mk), (2, .int t0), (4, .int (nI k))]) hx hb dX1_readOthers_63 rfl hl (by decide) rfl (fun ls hl => ?_)
                refine lv_iinc (v := nI (k + 1)) (lv' := [(4, .int (nI (k + 1))), (3, .int (x ||| (onl r31))), (5, .int r31), (0, .ref (h 0)), (1, .int mk), (2, .int t0)]) hx hb dX1_readOthers_64 hl (k := 5) rfl (nI_1 k) (by decide) rfl (fun ls hl => ?_)
                refine lv_goto (tgt := 5) hx hb dX1_readOthers_67 (by decide) ?_
                exact ih5 (k + 1) q31 (nE tx len ((sk tx len b) + 1)) (x ||| (onl r31)) f31 (by first | assumption | omega) (by repeat (first | exact rel.refl _ | exact rel.mono (by assumption) (by decide) (by decide) | refine rel.I (by decide) ?_ | refine rel.A (by decide) ?_ | refine rel.trans ?_ (rel.mono (by assumption) (by decide) (by decide)))) (hb31) (by first | assumption | omega) (by first | assumption | omega) (htx31) (e431) (by first | assumption | omega) (fun q => absurd q (by omega)) (fun _ => ⟨sk tx len (sk tx len b + 1), nE tx len (sk tx len b + 1), x, hO.symm.trans ((oth_f c17 (by omega) (by omega)).trans (by rw [hf31])), e531⟩) (by omega) _ _ ls hP hD hS (lv_sub hl [3, 4, 5, 1, 0] rfl)
        · skip
          refine lv_aload_n hx hb dX1_readOthers_12 rfl (lv_at hl 0 rfl) ?_
          refine cXi (As := []) (rest := []) (S := oS × oS) (wa := rv G h q w) (w1 := fun v => rv G h v.1 v.2) ⟨hx, hb, hml, hown, hts⟩ (mt_X1_nextSign1 l G h _ q w len b fz tx ((hR.1 1 (by decide)).trans hlen) (hbq) (hbz) (by first | assumption | omega) (by first | assumption | omega) (htx_q) (by first | assumption | omega) (by first | assumption | omega)) (cwV 0 hts gX1_readOthers_X1_nextSign rfl rfl rfl ⟨rfl, hd_X1_nextSign⟩ ⟨Nat.le_of_ble_eq_true rfl, Nat.le_of_ble_eq_true rfl⟩) hK hN hP hD hS hA (fun _ => rfl) 0 1 rfl rfl rfl hl.1 rfl (Nat.le_of_ble_eq_true rfl) ⟨Nat.zero_le _, Nat.zero_le _⟩ dX1_readOthers_13 (fun r13 u13 H locs hw13 hP hD hS => ?_)
          obtain ⟨rfl, rfl⟩ := hw13
          have hP : PP G (rv G h (oI q 2 (nI (sk tx len b))) w) H := hP
          have hD : va_D A (rv G h (oI q 2 (nI (sk tx len b))) w) := hD
          have hge13 : b ≤ sk tx len b := rn_ge _
          have hle13 : sk tx len b ≤ len := rn_le (by omega)
          refine lv_iload_n hx hb dX1_readOthers_16 rfl (lv_at hl 1 rfl) ?_
          refine lv_icmp_ne (tgt := 70) hx hb dX1_readOthers_17 (by decide) (fun c17 => ?_) (fun c17 => ?_)
          · skip
            refine lv_iload_n hx hb dX1_readOthers_70 rfl (lv_at hl 3 rfl) ?_
            exact W.iret (v := x) hx hb hr (fun t ht hW => ⟨⟨x, (oI q 2 (nI (sk tx len b)), w), rfl, by obtain ⟨p9, e9, y9, h9, h10⟩ := hF1 (by omega); exact Or.inr ⟨_, sk tx len b, fz, p9, e9, y9, rfl, by repeat (first | exact rel.refl _ | exact rel.mono (by assumption) (by decide) (by decide) | refine rel.I (by decide) ?_ | refine rel.A (by decide) ?_ | refine rel.trans ?_ (rel.mono (by assumption) (by decide) (by decide))), rfl, by omega, h9, hbz, h10, by omega, hf4⟩, show PP G (rv G h (oI q 2 (nI (sk tx len b))) w) t.heap by rw [ht]; exact hP⟩, hS.F ht⟩) hS.2.2 dX1_readOthers_71
          · skip
            exact absurd c17.symm hsm
  exact LP5 (25 - 0 + 1) 0 rd a0 (nI 0) 0 (by first | assumption | omega) (by repeat (first | exact rel.refl _ | exact rel.mono (by assumption) (by decide) (by decide) | refine rel.I (by decide) ?_ | refine rel.A (by decide) ?_ | refine rel.trans ?_ (rel.mono (by assumption) (by decide) (by decide)))) (ha0) (by first | assumption | omega) (by first | assumption | omega) (htx) (h40) (by first | assumption | omega) (fun _ => ⟨rfl, rel.refl _, cnt_b0 _⟩) (fun q => absurd rfl q) (Nat.lt_succ_self _) _ _ ls hP hD hS (lv_sub hl [2, 3, 4, 1, 0] rfl)
set_option maxHeartbeats 1000000 in
set_option maxRecDepth 100000 in
theorem mt_X1_readOthers1 (l : Launch) (G : gG) (h : Nat → Nat) (sz : Nat) (rd : oS) (w : oS) (len : Nat) (a0 : Nat) (fz : Nat) (tx : Nat → Int32) (mk : Int32) (t0 : Int32) (hlen : rd.1 1 = nI len) (ha0 : rd.1 2 = nI a0) (hfz : rd.1 4 = nI fz) (hl240 : len ≤ 240) (hAn : a0 ≤ len) (htx : rwE (rd.2 0) tx len) (hfp : 0 < fz) (hfq : fz ≤ 4) (hsm : ¬ mk = -1) : Met l yX1_readOthers wsX1_readOthers ({ frames := 3, cells := 0, slots := 0, locals := 64 }) (preW G (rv G h rd w) sz [.ref (h 0), .int mk, .int t0]) (va_Qi (fun (r : Int32) (v : oS × oS) => v = (oI rd 2 (nI (sk tx len a0)), w)) (fun v t => PP G (rv G h v.1 v.2) t.heap) (va_A (rv G h rd w) sz)) 0 0 (va_A (rv G h rd w) sz) := by
  refine Met.ofW (cc := cX1_readOthers) (maxL := 6) (ret := (some .int)) (by decide) rfl ?_
  intro p e s m args below meth c s₁ B hml hv
  obtain ⟨ha, hsz, hP, hK, hN, hD0⟩ := hv
  subst ha
  have hx := B.exec
  have hb := B.bytes
  have hr := B.returns
  have hts := atoms_spec (ws := wsX1_readOthers) B.pre
  have hown : s.vm.findClass RX1 = some m.cls := findClass_of_methodNamed B.named
  have hlocks := B.notSynchronized
  subst hsz
  have hD := hD0.self (sz := s.heap.size)
  generalize hAe : va_A (rv G h rd w) s.heap.size = A at hD ⊢
  have hA : ∀ q : Nat, s.heap.size ≤ q → A q := fun q h => by rw [← hAe]; exact Or.inr h
  clear hAe hD0
  have hS : va_S A s.heap s.heap [] := va_S.rf
  have hiX1 : ∀ w ∈ wsX10, w ∈ wsX1_readOthers := fun w h9 => List.mem_cons_of_mem _ (List.mem_append_left _ (List.mem_append_right _ (h9)))
  have k19 := hts (.fieldLink RX1 19 "WovenHistory$Reader" "at" "I") (List.mem_of_getElem? (i := 1) rfl)
  have k22 := hts (.fieldLink RX1 22 "WovenHistory$Reader" "numberAt" "I") (List.mem_of_getElem? (i := 2) rfl)
  have hl := lv_entry ([.ref (h 0), .int mk, .int t0]) (n := 6) (Nat.le_of_ble_eq_true rfl)
  rw [lg_entry_eq]
  generalize (lg_sl ([.ref (h 0), .int mk, .int t0]) ++ List.replicate (6 - (lg_sl ([.ref (h 0), .int mk, .int t0])).length) Slot.unset).toArray = ls at hl ⊢
  have hl : lv_has ls 6 [(0, .ref (h 0)), (1, .int mk), (2, .int t0)] := hl
  refine lv_iconst (v := nI 0) hx hb dX1_readOthers_0 (by decide) ?_
  refine lv_istore_n (lv' := [(3, .int (nI 0)), (0, .ref (h 0)), (1, .int mk), (2, .int t0)]) hx hb dX1_readOthers_1 rfl hl (by decide) rfl (fun ls hl => ?_)
  refine lv_iconst (v := nI 0) hx hb dX1_readOthers_2 (by decide) ?_
  refine lv_istore (lv' := [(4, .int (nI 0)), (3, .int (nI 0)), (0, .ref (h 0)), (1, .int mk), (2, .int t0)]) hx hb dX1_readOthers_3 hl (by decide) rfl (fun ls hl => ?_)
  refine lv_iload hx hb dX1_readOthers_5 (lv_at hl 0 rfl) ?_
  refine lv_bipush (v := nI 24) hx hb dX1_readOthers_7 (by decide) ?_
  refine lv_icmp_gt (tgt := 70) hx hb dX1_readOthers_9 (by decide) (fun c9 => absurd c9 (by decide)) (fun _ => ?_)
  refine lv_aload_n hx hb dX1_readOthers_12 rfl (lv_at hl 2 rfl) ?_
  refine cXi (As := []) (rest := []) (S := oS × oS) (wa := rv G h rd w) (w1 := fun v => rv G h v.1 v.2) ⟨hx, hb, hml, hown, hts⟩ (mt_X1_nextSign1 l G h _ rd w len a0 fz tx (hlen) (ha0) (hfz) (by first | assumption | omega) (by first | assumption | omega) (htx) (by first | assumption | omega) (by first | assumption | omega)) (cwV 0 hts gX1_readOthers_X1_nextSign rfl rfl rfl ⟨rfl, hd_X1_nextSign⟩ ⟨Nat.le_of_ble_eq_true rfl, Nat.le_of_ble_eq_true rfl⟩) hK hN hP hD hS hA (fun _ => rfl) 0 1 rfl rfl rfl hl.1 rfl (Nat.le_of_ble_eq_true rfl) ⟨Nat.zero_le _, Nat.zero_le _⟩ dX1_readOthers_13 (fun r13 u13 H locs hw13 hP hD hS => ?_)
  obtain ⟨rfl, rfl⟩ := hw13
  have hP : PP G (rv G h (oI rd 2 (nI (sk tx len a0))) w) H := hP
  have hD : va_D A (rv G h (oI rd 2 (nI (sk tx len a0))) w) := hD
  have hge13 : a0 ≤ sk tx len a0 := rn_ge _
  have hle13 : sk tx len a0 ≤ len := rn_le (by omega)
  refine lv_iload_n hx hb dX1_readOthers_16 rfl (lv_at hl 3 rfl) ?_
  refine lv_icmp_ne (tgt := 70) hx hb dX1_readOthers_17 (by decide) (fun c17 => ?_) (fun c17 => ?_)
  · skip
    refine lv_iload_n hx hb dX1_readOthers_70 rfl (lv_at hl 1 rfl) ?_
    exact W.iret (v := nI 0) hx hb hr (fun t ht hW => ⟨⟨nI 0, (oI rd 2 (nI (sk tx len a0)), w), rfl, rfl, show PP G (rv G h (oI rd 2 (nI (sk tx len a0))) w) t.heap by rw [ht]; exact hP⟩, hS.F ht⟩) hS.2.2 dX1_readOthers_71
  · skip
    exact absurd c17.symm hsm
set_option maxHeartbeats 1000000 in
set_option maxRecDepth 100000 in
theorem mt_X1_bringerAround (l : Launch) (G : gG) (h : Nat → Nat) (rd : oS) (w : oS) (dp : Nat) (bk : Nat → Int32) (bi : Nat → Int32) (hdp : rd.1 8 = nI dp) (hd48 : dp ≤ 48) (hbk : rwE (rd.2 7) bk dp) (hbi : rwE (rd.2 6) bi dp) : Met l yX1_bringerAround wsX1_bringerAround ({ frames := 0, cells := 0, slots := 0, locals := 0 }) (preR G (rv G h rd w) [.ref (h 0)]) (vp_Si (fun r : Int32 => r = brA bk bi dp)) 0 0 (fun _ => False) := by
  refine Met.ofW (cc := cX1_bringerAround) (maxL := 2) (ret := (some .int)) (by decide) rfl ?_
  intro p e s m args below meth c s₁ B hml hv
  obtain ⟨ha, hP, hK, hN⟩ := hv
  subst ha
  have hx := B.exec
  have hb := B.bytes
  have hr := B.returns
  have hts := atoms_spec (ws := wsX1_bringerAround) B.pre
  have hown : s.vm.findClass RX1 = some m.cls := findClass_of_methodNamed B.named
  have hlocks := B.notSynchronized
  have hiX1 : ∀ w ∈ wsX10, w ∈ wsX1_bringerAround := fun w h9 => List.mem_cons_of_mem _ (List.mem_append_right _ (h9))
  have k38 := hts (.fieldLink RX1 38 "WovenHistory$Reader" "depth" "I") (List.mem_of_getElem? (i := 1) rfl)
  have k31 := hts (.fieldLink RX1 31 "WovenHistory$Reader" "blockBrings" "[Z") (List.mem_of_getElem? (i := 2) rfl)
  have k35 := hts (.fieldLink RX1 35 "WovenHistory$Reader" "blockBy" "[I") (List.mem_of_getElem? (i := 3) rfl)
  have hl := lv_entry ([.ref (h 0)]) (n := 2) (Nat.le_of_ble_eq_true rfl)
  rw [lg_entry_eq]
  generalize (lg_sl ([.ref (h 0)]) ++ List.replicate (2 - (lg_sl ([.ref (h 0)])).length) Slot.unset).toArray = ls at hl ⊢
  have hl : lv_has ls 2 [(0, .ref (h 0))] := hl
  refine lv_aload_n hx hb dX1_bringerAround_0 rfl (lv_at hl 0 rfl) ?_
  refine va_get (D := gD G) (ci := 1) (v := .int (rd.1 8)) (C := RX1) (T := TX1) (N := 10) hx hb hts hiX1 hown hK hP 0 rfl rfl 8 (by decide) k38 (fun _ h9 => h9) rfl dX1_bringerAround_1 ?_
  refine topE hdp ?_
  refine lv_iconst (v := nI 1) hx hb dX1_bringerAround_4 (by decide) ?_
  refine lv_isub hx hb dX1_bringerAround_5 ?_
  refine topE (y := nI dp + (-1)) (nI_subm dp) ?_
  refine lv_istore_n (lv' := [(1, .int (nI dp + (-1))), (0, .ref (h 0))]) hx hb dX1_bringerAround_6 rfl hl (by decide) rfl (fun ls hl => ?_)
  have LP7 : ∀ (n7m : Nat), ∀ (kk : Nat) (hkk : kk ≤ dp) (hbr : brA bk bi kk = brA bk bi dp), (kk < n7m) → ∀ (ls : Array Slot), lv_has ls 2 [(0, .ref (h 0)), (1, .int (nI kk + (-1)))] → W p l e (headSpec wsX1_bringerAround ({ frames := 0, cells := 0, slots := 0, locals := 0 })).room s m ([.ref (h 0)] : List Value).toArray below meth c s.heap [] 0 0 (MQ below (vp_Si (fun r : Int32 => r = brA bk bi dp)) ([.ref (h 0)] : List Value).toArray s 0 0 (fun _ => False)) (F0 m 7 ls []) := by
    intro n7m
    induction n7m with
    | zero => intro kk hkk hbr hmu ls hl; exact absurd hmu (Nat.not_lt_zero _)
    | succ n7m ih7 =>
      intro kk hkk hbr hmu ls hl
      refine lv_iload_n hx hb dX1_bringerAround_7 rfl (lv_at hl 1 rfl) ?_
      refine lv_if_lt (tgt := 33) hx hb dX1_bringerAround_8 (by decide) (fun c8 => ?_) (fun c8 => ?_)
      · skip
        have ek : kk = 0 := nI_m1neg (by omega) c8
        subst ek
        refine lv_iconst (v := (-1 : Int32)) hx hb dX1_bringerAround_33 (by decide) ?_
        exact W.iret (v := (-1 : Int32)) hx hb hr (fun t ht hW => ⟨(-1 : Int32), rfl, hbr, ht⟩) (fun _ h9 => by cases h9) dX1_bringerAround_34
      · skip
        obtain ⟨k8, rfl⟩ := nI_m1pos c8
        rw [pk_m1] at hl
        refine lv_aload_n hx hb dX1_bringerAround_11 rfl (lv_at hl 0 rfl) ?_
        refine va_get (D := gD G) (ci := 1) (v := .ref (h 7)) (C := RX1) (T := TX1) (N := 10) hx hb hts hiX1 hown hK hP 0 rfl rfl 6 (by decide) k31 (fun _ h9 => h9) rfl dX1_bringerAround_12 ?_
        refine lv_iload_n hx hb dX1_bringerAround_15 rfl (lv_at hl 1 rfl) ?_
        refine zaldN (f := rd.2 6) (n := 48) (k := k8) hx hb hK hP 2 rfl rfl (by omega) dX1_bringerAround_16 ?_
        refine topE (hbi k8 (by omega)) ?_
        refine lv_if_eq (tgt := 27) hx hb dX1_bringerAround_17 (by decide) (fun c17 => ?_) (fun c17 => ?_)
        · skip
          refine lv_iinc (v := (nI k8) + (-1)) (lv' := [(1, .int ((nI k8) + (-1))), (0, .ref (h 0))]) hx hb dX1_bringerAround_27 hl (k := 1) rfl (rfl) (by decide) rfl (fun ls hl => ?_)
          refine lv_goto (tgt := 7) hx hb dX1_bringerAround_30 (by decide) ?_
          exact ih7 k8 (by first | assumption | omega) (by rw [← hbr, brA, if_pos c17]) (by omega) ls (lv_sub hl [1, 0] rfl)
        · skip
          refine lv_aload_n hx hb dX1_bringerAround_20 rfl (lv_at hl 0 rfl) ?_
          refine va_get (D := gD G) (ci := 1) (v := .ref (h 8)) (C := RX1) (T := TX1) (N := 10) hx hb hts hiX1 hown hK hP 0 rfl rfl 7 (by decide) k35 (fun _ h9 => h9) rfl dX1_bringerAround_21 ?_
          refine lv_iload_n hx hb dX1_bringerAround_24 rfl (lv_at hl 1 rfl) ?_
          refine ialdN (f := rd.2 7) (n := 48) (k := k8) hx hb hK hP 3 rfl rfl (by omega) dX1_bringerAround_25 ?_
          refine topE (hbk k8 (by omega)) ?_
          exact W.iret (v := bk k8) hx hb hr (fun t ht hW => ⟨bk k8, rfl, by rw [← hbr, brA, if_neg c17], ht⟩) (fun _ h9 => by cases h9) dX1_bringerAround_26
  exact LP7 (dp + 1) dp (by first | assumption | omega) (rfl) (Nat.lt_succ_self _) ls (lv_sub hl [1, 0] rfl)
set_option maxHeartbeats 1000000 in
set_option maxRecDepth 100000 in
theorem mt_X1_takersAround (l : Launch) (G : gG) (h : Nat → Nat) (rd : oS) (w : oS) (dp : Nat) (bk : Nat → Int32) (bi : Nat → Int32) (hdp : rd.1 8 = nI dp) (hd48 : dp ≤ 48) (hbk : rwE (rd.2 7) bk dp) (hbi : rwE (rd.2 6) bi dp) (hPb : PIb bk bi dp) : Met l yX1_takersAround wsX1_takersAround ({ frames := 1, cells := 0, slots := 0, locals := 20 }) (preR G (rv G h rd w) [.ref (h 0)]) (vp_Si (fun r : Int32 => r = tkA bk bi dp)) 0 0 (fun _ => False) := by
  refine Met.ofW (cc := cX1_takersAround) (maxL := 3) (ret := (some .int)) (by decide) rfl ?_
  intro p e s m args below meth c s₁ B hml hv
  obtain ⟨ha, hP, hK, hN⟩ := hv
  subst ha
  have hx := B.exec
  have hb := B.bytes
  have hr := B.returns
  have hts := atoms_spec (ws := wsX1_takersAround) B.pre
  have hown : s.vm.findClass RX1 = some m.cls := findClass_of_methodNamed B.named
  have hlocks := B.notSynchronized
  have hiX1 : ∀ w ∈ wsX10, w ∈ wsX1_takersAround := fun w h9 => List.mem_cons_of_mem _ (List.mem_append_right _ (h9))
  have k38 := hts (.fieldLink RX1 38 "WovenHistory$Reader" "depth" "I") (List.mem_of_getElem? (i := 1) rfl)
  have k31 := hts (.fieldLink RX1 31 "WovenHistory$Reader" "blockBrings" "[Z") (List.mem_of_getElem? (i := 2) rfl)
  have k35 := hts (.fieldLink RX1 35 "WovenHistory$Reader" "blockBy" "[I") (List.mem_of_getElem? (i := 3) rfl)
  have hl := lv_entry ([.ref (h 0)]) (n := 3) (Nat.le_of_ble_eq_true rfl)
  rw [lg_entry_eq]
  generalize (lg_sl ([.ref (h 0)]) ++ List.replicate (3 - (lg_sl ([.ref (h 0)])).length) Slot.unset).toArray = ls at hl ⊢
  have hl : lv_has ls 3 [(0, .ref (h 0))] := hl
  refine lv_iconst (v := (0 : Int32)) hx hb dX1_takersAround_0 (by decide) ?_
  refine lv_istore_n (lv' := [(1, .int (0 : Int32)), (0, .ref (h 0))]) hx hb dX1_takersAround_1 rfl hl (by decide) rfl (fun ls hl => ?_)
  refine lv_iconst (v := nI 0) hx hb dX1_takersAround_2 (by decide) ?_
  refine lv_istore_n (lv' := [(2, .int (nI 0)), (1, .int (0 : Int32)), (0, .ref (h 0))]) hx hb dX1_takersAround_3 rfl hl (by decide) rfl (fun ls hl => ?_)
  have LP4 : ∀ (n4m : Nat), ∀ (k : Nat) (y : Int32) (hk : k ≤ dp) (hty : y = tkA bk bi k), (dp - k < n4m) → ∀ (ls : Array Slot), lv_has ls 3 [(0, .ref (h 0)), (1, .int y), (2, .int (nI k))] → W p l e (headSpec wsX1_takersAround ({ frames := 1, cells := 0, slots := 0, locals := 20 })).room s m ([.ref (h 0)] : List Value).toArray below meth c s.heap [] 0 0 (MQ below (vp_Si (fun r : Int32 => r = tkA bk bi dp)) ([.ref (h 0)] : List Value).toArray s 0 0 (fun _ => False)) (F0 m 4 ls []) := by
    intro n4m
    induction n4m with
    | zero => intro k y hk hty hmu ls hl; exact absurd hmu (Nat.not_lt_zero _)
    | succ n4m ih4 =>
      intro k y hk hty hmu ls hl
      refine lv_iload_n hx hb dX1_takersAround_4 rfl (lv_at hl 2 rfl) ?_
      refine lv_aload_n hx hb dX1_takersAround_5 rfl (lv_at hl 0 rfl) ?_
      refine va_get (D := gD G) (ci := 1) (v := .int (rd.1 8)) (C := RX1) (T := TX1) (N := 10) hx hb hts hiX1 hown hK hP 0 rfl rfl 8 (by decide) k38 (fun _ h9 => h9) rfl dX1_takersAround_6 ?_
      refine topE hdp ?_
      refine lv_icmp_ge (tgt := 39) hx hb dX1_takersAround_9 (by decide) (fun c9 => ?_) (fun c9 => ?_)
      · skip
        have n9 : dp ≤ k := (nI_leI (a := dp) (b := k) (by omega) (by omega)).mp c9
        refine lv_iload_n hx hb dX1_takersAround_39 rfl (lv_at hl 1 rfl) ?_
        exact W.iret (v := y) hx hb hr (fun t ht hW => ⟨y, rfl, by rw [hty, show k = dp by omega], ht⟩) (fun _ h9 => by cases h9) dX1_takersAround_40
      · skip
        have n9 : ¬ (dp ≤ k) := fun q9 => c9 ((nI_leI (a := dp) (b := k) (by omega) (by omega)).mpr q9)
        refine lv_aload_n hx hb dX1_takersAround_12 rfl (lv_at hl 0 rfl) ?_
        refine va_get (D := gD G) (ci := 1) (v := .ref (h 7)) (C := RX1) (T := TX1) (N := 10) hx hb hts hiX1 hown hK hP 0 rfl rfl 6 (by decide) k31 (fun _ h9 => h9) rfl dX1_takersAround_13 ?_
        refine lv_iload_n hx hb dX1_takersAround_16 rfl (lv_at hl 2 rfl) ?_
        refine zaldN (f := rd.2 6) (n := 48) (k := k) hx hb hK hP 2 rfl rfl (by omega) dX1_takersAround_17 ?_
        refine topE (hbi k (by omega)) ?_
        refine lv_if_ne (tgt := 33) hx hb dX1_takersAround_18 (by decide) (fun c18 => ?_) (fun c18 => ?_)
        · skip
          refine lv_iinc (v := nI (k + 1)) (lv' := [(2, .int (nI (k + 1))), (0, .ref (h 0)), (1, .int y)]) hx hb dX1_takersAround_33 hl (k := 2) rfl (nI_1 k) (by decide) rfl (fun ls hl => ?_)
          refine lv_goto (tgt := 4) hx hb dX1_takersAround_36 (by decide) ?_
          exact ih4 (k + 1) y (by first | assumption | omega) (by first | (rw [tkA, if_pos c18, ← hty]) | (rw [tkA, if_neg c18, Int32.or_zero]; exact hty)) (by omega) ls (lv_sub hl [1, 2, 0] rfl)
        · skip
          refine lv_iload_n hx hb dX1_takersAround_21 rfl (lv_at hl 1 rfl) ?_
          refine lv_aload_n hx hb dX1_takersAround_22 rfl (lv_at hl 0 rfl) ?_
          refine va_get (D := gD G) (ci := 1) (v := .ref (h 8)) (C := RX1) (T := TX1) (N := 10) hx hb hts hiX1 hown hK hP 0 rfl rfl 7 (by decide) k35 (fun _ h9 => h9) rfl dX1_takersAround_23 ?_
          refine lv_iload_n hx hb dX1_takersAround_26 rfl (lv_at hl 2 rfl) ?_
          refine ialdN (f := rd.2 7) (n := 48) (k := k) hx hb hK hP 3 rfl rfl (by omega) dX1_takersAround_27 ?_
          refine topE (hbk k (by omega)) ?_
          refine cSi (As := [.int (bk k)]) (rest := [.int y]) ⟨hx, hb, hml, hown, hts⟩ (mt_X3_onlyF l (bk k)) (va_cwS 1 hts gX1_takersAround_X3_only rfl rfl rfl hd_X3_only ⟨Nat.le_of_ble_eq_true rfl, Nat.le_of_ble_eq_true rfl⟩) rfl hl.1 rfl (Nat.le_of_ble_eq_true rfl) ⟨Nat.zero_le _, Nat.zero_le _⟩ dX1_takersAround_28 (fun r28 hw28 => ?_)
          obtain rfl := hw28
          obtain ⟨v31, hv31, ev31, -⟩ := hPb k (by omega)
          refine topE (show onl (bk k) = (1 : Int32) <<< (bk k &&& 31) from by rw [ev31]; exact onl_n hv31) ?_
          refine lv_ior hx hb dX1_takersAround_31 ?_
          refine lv_istore_n (lv' := [(1, .int (y ||| ((1 : Int32) <<< (bk k &&& 31)))), (0, .ref (h 0)), (2, .int (nI k))]) hx hb dX1_takersAround_32 rfl hl (by decide) rfl (fun ls hl => ?_)
          refine lv_iinc (v := nI (k + 1)) (lv' := [(2, .int (nI (k + 1))), (1, .int (y ||| ((1 : Int32) <<< (bk k &&& 31)))), (0, .ref (h 0))]) hx hb dX1_takersAround_33 hl (k := 2) rfl (nI_1 k) (by decide) rfl (fun ls hl => ?_)
          refine lv_goto (tgt := 4) hx hb dX1_takersAround_36 (by decide) ?_
          exact ih4 (k + 1) (y ||| ((1 : Int32) <<< (bk k &&& 31))) (by first | assumption | omega) (by first | (rw [tkA, if_pos c18, ← hty]) | (rw [tkA, if_neg c18, Int32.or_zero]; exact hty)) (by omega) ls (lv_sub hl [2, 1, 0] rfl)
  exact LP4 (dp - 0 + 1) 0 (0 : Int32) (by first | assumption | omega) (rfl) (Nat.lt_succ_self _) ls (lv_sub hl [2, 1, 0] rfl)
set_option maxHeartbeats 1000000 in
set_option maxRecDepth 100000 in
theorem mt_X1_upTo (l : Launch) (x : Int32) : Met l yX1_upTo wsX1_upTo ({ frames := 1, cells := 0, slots := 0, locals := 20 }) (preS [.int x]) (vp_Si (fun r : Int32 => r = ((onl x) <<< ((1 : Int32) &&& 31)) - (1 : Int32))) 0 0 (fun _ => False) := by
  refine Met.ofW (cc := cX1_upTo) (maxL := 1) (ret := (some .int)) (by decide) rfl ?_
  intro p e s m args below meth c s₁ B hml hv
  obtain ⟨ha, -⟩ := hv
  subst ha
  have hx := B.exec
  have hb := B.bytes
  have hr := B.returns
  have hts := atoms_spec (ws := wsX1_upTo) B.pre
  have hown : s.vm.findClass RX1 = some m.cls := findClass_of_methodNamed B.named
  have hlocks := B.notSynchronized
  have hl := lv_entry ([.int x]) (n := 1) (Nat.le_of_ble_eq_true rfl)
  rw [lg_entry_eq]
  generalize (lg_sl ([.int x]) ++ List.replicate (1 - (lg_sl ([.int x])).length) Slot.unset).toArray = ls at hl ⊢
  have hl : lv_has ls 1 [(0, .int x)] := hl
  refine lv_iload_n hx hb dX1_upTo_0 rfl (lv_at hl 0 rfl) ?_
  refine cSi (As := [.int x]) (rest := []) ⟨hx, hb, hml, hown, hts⟩ (mt_X3_onlyF l x) (va_cwS 1 hts gX1_upTo_X3_only rfl rfl rfl hd_X3_only ⟨Nat.le_of_ble_eq_true rfl, Nat.le_of_ble_eq_true rfl⟩) rfl hl.1 rfl (Nat.le_of_ble_eq_true rfl) ⟨Nat.zero_le _, Nat.zero_le _⟩ dX1_upTo_1 (fun r1 hw1 => ?_)
  obtain rfl := hw1
  refine lv_iconst (v := (1 : Int32)) hx hb dX1_upTo_4 (by decide) ?_
  refine lv_ishl hx hb dX1_upTo_5 ?_
  refine lv_iconst (v := (1 : Int32)) hx hb dX1_upTo_6 (by decide) ?_
  refine lv_isub hx hb dX1_upTo_7 ?_
  exact W.iret (v := ((onl x) <<< ((1 : Int32) &&& 31)) - (1 : Int32)) hx hb hr (fun t ht hW => ⟨((onl x) <<< ((1 : Int32) &&& 31)) - (1 : Int32), rfl, rfl, ht⟩) (fun _ h9 => by cases h9) dX1_upTo_8
set_option maxHeartbeats 1000000 in
set_option maxRecDepth 100000 in
theorem mt_X1_beginBlock (l : Launch) (G : gG) (h : Nat → Nat) (sz : Nat) (rd : oS) (w : oS) (tx : Nat → Int32) (len : Nat) (pa : pS) (z1 : Int32) (hs : RSc rd w len pa) (htx : rwE (rd.2 0) tx len) (h40 : rd.1 4 = nI 0) (hAl : pa.1 12 < len) (hPb : PIb (pa.2 24) (pa.2 25) (pa.1 23)) (hd48 : pa.1 23 ≤ 48) (hz : z1 = 0 ∨ z1 = 1) : Met l yX1_beginBlock wsX1_beginBlock ({ frames := 3, cells := 0, slots := 0, locals := 64 }) (preW G (rv G h rd w) sz [.ref (h 0), .int z1]) (va_Qv (fun (v : oS × oS) => (∃ q p s2, v = (q, p) ∧ rel [2, 3, 8] [6, 7] rd q ∧ bST tx len (decide (¬ z1 = 0)) pa = (0, 0, s2) ∧ RSc q p len s2 ∧ pa.1 12 < s2.1 12 ∧ PIb (s2.2 24) (s2.2 25) (s2.1 23) ∧ s2.1 23 ≤ 48) ∨ (∃ q p f pl s2, v = (q, p) ∧ rel [2, 3, 4, 5, 8] [6, 7] rd q ∧ bST tx len (decide (¬ z1 = 0)) pa = (f, pl, s2) ∧ 0 < f ∧ f ≤ 4 ∧ q.1 4 = nI f ∧ q.1 5 = nI pl ∧ ∃ b d n m, q.1 2 = nI b ∧ b ≤ len ∧ q.1 8 = nI d ∧ d ≤ 48 ∧ p.1 0 = nI n ∧ n ≤ 24 ∧ p.1 5 = nI m ∧ m ≤ 120)) (fun v t => PP G (rv G h v.1 v.2) t.heap) (va_A (rv G h rd w) sz)) 0 0 (va_A (rv G h rd w) sz) := by
  refine Met.ofW (cc := cX1_beginBlock) (maxL := 3) (ret := none) (by decide) rfl ?_
  intro p e s m args below meth c s₁ B hml hv
  obtain ⟨ha, hsz, hP, hK, hN, hD0⟩ := hv
  subst ha
  have hx := B.exec
  have hb := B.bytes
  have hr := B.returns
  have hts := atoms_spec (ws := wsX1_beginBlock) B.pre
  have hown : s.vm.findClass RX1 = some m.cls := findClass_of_methodNamed B.named
  have hlocks := B.notSynchronized
  subst hsz
  have hD := hD0.self (sz := s.heap.size)
  generalize hAe : va_A (rv G h rd w) s.heap.size = A at hD ⊢
  have hA : ∀ q : Nat, s.heap.size ≤ q → A q := fun q h => by rw [← hAe]; exact Or.inr h
  clear hAe hD0
  have hS : va_S A s.heap s.heap [] := va_S.rf
  have hiX1 : ∀ w ∈ wsX10, w ∈ wsX1_beginBlock := fun w h9 => List.mem_cons_of_mem _ (List.mem_append_left _ (List.mem_append_right _ (h9)))
  have k19 := hts (.fieldLink RX1 19 "WovenHistory$Reader" "at" "I") (List.mem_of_getElem? (i := 1) rfl)
  have k22 := hts (.fieldLink RX1 22 "WovenHistory$Reader" "numberAt" "I") (List.mem_of_getElem? (i := 2) rfl)
  have k25 := hts (.fieldLink RX1 25 "WovenHistory$Reader" "faultNumber" "I") (List.mem_of_getElem? (i := 3) rfl)
  have k38 := hts (.fieldLink RX1 38 "WovenHistory$Reader" "depth" "I") (List.mem_of_getElem? (i := 4) rfl)
  have k31 := hts (.fieldLink RX1 31 "WovenHistory$Reader" "blockBrings" "[Z") (List.mem_of_getElem? (i := 5) rfl)
  have k35 := hts (.fieldLink RX1 35 "WovenHistory$Reader" "blockBy" "[I") (List.mem_of_getElem? (i := 6) rfl)
  have hl := lv_entry ([.ref (h 0), .int z1]) (n := 3) (Nat.le_of_ble_eq_true rfl)
  rw [lg_entry_eq]
  generalize (lg_sl ([.ref (h 0), .int z1]) ++ List.replicate (3 - (lg_sl ([.ref (h 0), .int z1])).length) Slot.unset).toArray = ls at hl ⊢
  have hl : lv_has ls 3 [(0, .ref (h 0)), (1, .int z1)] := hl
  obtain ⟨e1, e2, e8, e0, e5, ⟨q240, qa, qv, ql, qd, qpar⟩, hrw⟩ := id hs
  refine lv_aload_n hx hb dX1_beginBlock_0 rfl (lv_at hl 0 rfl) ?_
  refine lv_dup hx hb dX1_beginBlock_1 rfl ?_
  refine va_get (D := gD G) (ci := 1) (v := .int (rd.1 2)) (C := RX1) (T := TX1) (N := 10) hx hb hts hiX1 hown hK hP 0 rfl rfl 2 (by decide) k19 (fun _ h9 => h9) rfl dX1_beginBlock_2 ?_
  refine topE e2 ?_
  refine lv_iconst (v := nI 1) hx hb dX1_beginBlock_5 (by decide) ?_
  refine lv_iadd hx hb dX1_beginBlock_6 ?_
  refine topE (y := nI ((pa.1 12) + 1)) (nI_add (pa.1 12) 1) ?_
  refine va_put (D := gD G) (ci := 1) (v := .int (nI ((pa.1 12) + 1))) (ty := .int) (C := RX1) (T := TX1) (N := 10) hx hb hts hiX1 tyX1 tyX1_ok nmX1 hown hK hP hD hS 0 rfl rfl 2 (by decide) k19 (fun _ h9 => h9) rfl (tyX1_ok 2 (by decide)) (rfl) (rfl) (Nat.le_of_ble_eq_true rfl) dX1_beginBlock_7 (fun H locs hP hD hS => ?_)
  have hP : PP G (rv G h (oI rd 2 (nI ((pa.1 12) + 1))) w) H := hP
  have hD : va_D A (rv G h (oI rd 2 (nI ((pa.1 12) + 1))) w) := hD
  refine lv_aload_n hx hb dX1_beginBlock_10 rfl (lv_at hl 0 rfl) ?_
  refine cXi (As := []) (rest := []) (S := oS × oS) (wa := rv G h (oI rd 2 (nI ((pa.1 12) + 1))) w) (w1 := fun v => rv G h v.1 v.2) ⟨hx, hb, hml, hown, hts⟩ (mt_X1_readVersionNumber l G h _ (oI rd 2 (nI ((pa.1 12) + 1))) w len ((pa.1 12) + 1) (pa.1 15) tx (e1) (rfl) (e0) (by first | assumption | omega) (by first | assumption | omega) (by first | assumption | omega) (htx) (h40)) (cwV 0 hts gX1_beginBlock_X1_readVersionNumber rfl rfl rfl ⟨rfl, hd_X1_readVersionNumber⟩ ⟨Nat.le_of_ble_eq_true rfl, Nat.le_of_ble_eq_true rfl⟩) hK hN hP hD hS hA (fun _ => rfl) 0 1 rfl rfl rfl hl.1 rfl (Nat.le_of_ble_eq_true rfl) ⟨Nat.zero_le _, Nat.zero_le _⟩ dX1_beginBlock_11 (fun r11 u11 H locs hw11 hP hD hS => ?_)
  rcases hw11 with ⟨q11, rfl, hR11, hb11, e311, hf11, rfl⟩ | ⟨q11, f11, rfl, hR11, hb11, e311, hf11, hp11, hg11, e411, e511⟩
  · skip
    have hP : PP G (rv G h q11 w) H := hP
    have hD : va_D A (rv G h q11 w) := hD
    have htx11 : rwE (q11.2 0) tx len := by rw [hR11.2 0 (by decide)]; exact (htx)
    have hEg11 : ((pa.1 12) + 1) ≤ nE tx len ((pa.1 12) + 1) := nE_ge _ _ _
    have hEl11 : nE tx len ((pa.1 12) + 1) ≤ len := nE_le (by omega)
    have hV11 := (vF_ok hf11).2
    have hV11b : (nV tx len (pa.1 12 + 1)) < 24 := by omega
    refine lv_istore_n (lv' := [(2, .int (nI (nV tx len ((pa.1 12) + 1)))), (0, .ref (h 0)), (1, .int z1)]) hx hb dX1_beginBlock_14 rfl hl (by decide) rfl (fun ls hl => ?_)
    refine lv_iload_n hx hb dX1_beginBlock_15 rfl (lv_at hl 0 rfl) ?_
    refine lv_aload_n hx hb dX1_beginBlock_16 rfl (lv_at hl 1 rfl) ?_
    refine cRi (w := rv G h q11 w) (As := []) (rest := [.int (nI (nV tx len ((pa.1 12) + 1)))]) ⟨hx, hb, hml, hown, hts⟩ (mt_X1_bringerAround l G h q11 w (pa.1 23) (pa.2 24) (pa.2 25) ((hR11.1 8 (by decide)).trans (e8)) (by first | assumption | omega) (by rw [hR11.2 7 (by decide)]; exact hrw.2.2.2.2.2.2.1) (by rw [hR11.2 6 (by decide)]; exact hrw.2.2.2.2.2.2.2.1)) (cwV 0 hts gX1_beginBlock_X1_bringerAround rfl rfl rfl ⟨rfl, hd_X1_bringerAround⟩ ⟨Nat.le_of_ble_eq_true rfl, Nat.le_of_ble_eq_true rfl⟩) hK hN hP 0 1 rfl rfl rfl hl.1 rfl (Nat.le_of_ble_eq_true rfl) ⟨Nat.zero_le _, Nat.zero_le _⟩ dX1_beginBlock_17 (fun r17 hw17 => ?_)
    obtain rfl := hw17
    refine lv_icmp_le (tgt := 38) hx hb dX1_beginBlock_20 (by decide) (fun c20 => ?_) (fun c20 => ?_)
    · skip
      have hnm : ¬ mayB (pa.2 24) (pa.2 25) (nV tx len (pa.1 12 + 1)) (decide (¬ z1 = 0)) (pa.1 23) = true := fun q => absurd ((mayB_iff hV11b hPb).mp q).1 (Int32.not_lt.mpr c20)
      refine lv_aload_n hx hb dX1_beginBlock_38 rfl (lv_at hl 1 rfl) ?_
      refine lv_iconst (v := nI 4) hx hb dX1_beginBlock_39 (by decide) ?_
      refine lv_aload_n hx hb dX1_beginBlock_40 rfl (lv_at hl 1 rfl) ?_
      refine va_get (D := gD G) (ci := 1) (v := .int (q11.1 3)) (C := RX1) (T := TX1) (N := 10) hx hb hts hiX1 hown hK hP 0 rfl rfl 3 (by decide) k22 (fun _ h9 => h9) rfl dX1_beginBlock_41 ?_
      refine topE e311 ?_
      refine cXv (As := [.int (nI 4), .int (nI (sk tx len ((pa.1 12) + 1)))]) (rest := []) (S := oS × oS) (wa := rv G h q11 w) (w1 := fun v => rv G h v.1 v.2) ⟨hx, hb, hml, hown, hts⟩ (mt_X1_fail0 l G h _ q11 w (nI 4) (nI (sk tx len ((pa.1 12) + 1))) ((hR11.1 4 (by decide)).trans (h40))) (cwV 2 hts gX1_beginBlock_X1_fail rfl rfl rfl ⟨rfl, hd_X1_fail⟩ ⟨Nat.le_of_ble_eq_true rfl, Nat.le_of_ble_eq_true rfl⟩) hK hN hP hD hS hA (fun _ => rfl) 0 1 rfl rfl rfl hl.1 rfl (Nat.le_of_ble_eq_true rfl) ⟨Nat.zero_le _, Nat.zero_le _⟩ dX1_beginBlock_44 (fun u44 H locs hw44 hP hD hS => ?_)
      obtain rfl := hw44
      have hP : PP G (rv G h (oI (oI q11 4 (nI 4)) 5 (nI (sk tx len ((pa.1 12) + 1)))) w) H := hP
      have hD : va_D A (rv G h (oI (oI q11 4 (nI 4)) 5 (nI (sk tx len ((pa.1 12) + 1)))) w) := hD
      refine lv_aload_n hx hb dX1_beginBlock_47 rfl (lv_at hl 1 rfl) ?_
      refine lv_bipush (v := nI 40) hx hb dX1_beginBlock_48 (by decide) ?_
      refine cXv (As := [.int (nI 40)]) (rest := []) (S := oS × oS) (wa := rv G h (oI (oI q11 4 (nI 4)) 5 (nI (sk tx len ((pa.1 12) + 1)))) w) (w1 := fun v => rv G h v.1 v.2) ⟨hx, hb, hml, hown, hts⟩ (mt_X1_expect1 l G h _ (oI (oI q11 4 (nI 4)) 5 (nI (sk tx len ((pa.1 12) + 1)))) w len (nE tx len ((pa.1 12) + 1)) 4 tx (nI 40) ((hR11.1 1 (by decide)).trans (e1)) (hb11) (rfl) (by first | assumption | omega) (by first | assumption | omega) (htx11) (by first | assumption | omega) (by first | assumption | omega) (by decide)) (cwV 1 hts gX1_beginBlock_X1_expect rfl rfl rfl ⟨rfl, hd_X1_expect⟩ ⟨Nat.le_of_ble_eq_true rfl, Nat.le_of_ble_eq_true rfl⟩) hK hN hP hD hS hA (fun _ => rfl) 0 1 rfl rfl rfl hl.1 rfl (Nat.le_of_ble_eq_true rfl) ⟨Nat.zero_le _, Nat.zero_le _⟩ dX1_beginBlock_50 (fun u50 H locs hw50 hP hD hS => ?_)
      obtain rfl := hw50
      have hP : PP G (rv G h (oI (oI (oI q11 4 (nI 4)) 5 (nI (sk tx len ((pa.1 12) + 1)))) 2 (nI (sk tx len (nE tx len ((pa.1 12) + 1))))) w) H := hP
      have hD : va_D A (rv G h (oI (oI (oI q11 4 (nI 4)) 5 (nI (sk tx len ((pa.1 12) + 1)))) 2 (nI (sk tx len (nE tx len ((pa.1 12) + 1))))) w) := hD
      have hge50 : (nE tx len ((pa.1 12) + 1)) ≤ sk tx len (nE tx len ((pa.1 12) + 1)) := rn_ge _
      have hle50 : sk tx len (nE tx len ((pa.1 12) + 1)) ≤ len := rn_le (by omega)
      refine lv_aload_n hx hb dX1_beginBlock_53 rfl (lv_at hl 1 rfl) ?_
      refine va_get (D := gD G) (ci := 1) (v := .int (nI 4)) (C := RX1) (T := TX1) (N := 10) hx hb hts hiX1 hown hK hP 0 rfl rfl 4 (by decide) k25 (fun _ h9 => h9) rfl dX1_beginBlock_54 ?_
      refine lv_if_ne (tgt := 99) hx hb dX1_beginBlock_57 (by decide) (fun _ => ?_) (fun c9 => absurd c9 (by decide))
      exact W.vret hx hb hr (fun t ht hW => ⟨⟨(oI (oI (oI q11 4 (nI 4)) 5 (nI (sk tx len ((pa.1 12) + 1)))) 2 (nI (sk tx len (nE tx len ((pa.1 12) + 1)))), w), rfl, Or.inr ⟨_, _, 4, (sk tx len (pa.1 12 + 1)), pa, rfl, by repeat (first | exact rel.refl _ | exact rel.mono (by assumption) (by decide) (by decide) | refine rel.I (by decide) ?_ | refine rel.A (by decide) ?_ | refine rel.trans ?_ (rel.mono (by assumption) (by decide) (by decide))), bST_4 hf11 hnm, by omega, by omega, rfl, rfl, ⟨sk tx len (nE tx len ((pa.1 12) + 1)), pa.1 23, pa.1 15, pa.1 19, rfl, by omega, (hR11.1 8 (by decide)).trans (e8), by omega, e0, by omega, e5, by omega⟩⟩, show PP G (rv G h (oI (oI (oI q11 4 (nI 4)) 5 (nI (sk tx len ((pa.1 12) + 1)))) 2 (nI (sk tx len (nE tx len ((pa.1 12) + 1))))) w) t.heap by rw [ht]; exact hP⟩, hS.F ht⟩) hS.2.2 dX1_beginBlock_99
    · skip
      refine lv_iload_n hx hb dX1_beginBlock_23 rfl (lv_at hl 2 rfl) ?_
      refine lv_if_ne (tgt := 47) hx hb dX1_beginBlock_24 (by decide) (fun c24 => ?_) (fun c24 => ?_)
      · skip
        have hym : mayB (pa.2 24) (pa.2 25) (nV tx len (pa.1 12 + 1)) (decide (¬ z1 = 0)) (pa.1 23) = true := (mayB_iff hV11b hPb).mpr ⟨Int32.not_le.mp c20, Or.inl (decide_eq_true c24)⟩
        have h48 := PIb_48 hPb hV11b (Int32.not_le.mp c20)
        refine lv_aload_n hx hb dX1_beginBlock_47 rfl (lv_at hl 1 rfl) ?_
        refine lv_bipush (v := nI 40) hx hb dX1_beginBlock_48 (by decide) ?_
        refine cXv (As := [.int (nI 40)]) (rest := []) (S := oS × oS) (wa := rv G h q11 w) (w1 := fun v => rv G h v.1 v.2) ⟨hx, hb, hml, hown, hts⟩ (mt_X1_expect0 l G h _ q11 w len (nE tx len ((pa.1 12) + 1)) tx (nI 40) ((hR11.1 1 (by decide)).trans (e1)) (hb11) (by first | assumption | omega) (by first | assumption | omega) (htx11) ((hR11.1 4 (by decide)).trans (h40)) (by decide)) (cwV 1 hts gX1_beginBlock_X1_expect rfl rfl rfl ⟨rfl, hd_X1_expect⟩ ⟨Nat.le_of_ble_eq_true rfl, Nat.le_of_ble_eq_true rfl⟩) hK hN hP hD hS hA (fun _ => rfl) 0 1 rfl rfl rfl hl.1 rfl (Nat.le_of_ble_eq_true rfl) ⟨Nat.zero_le _, Nat.zero_le _⟩ dX1_beginBlock_50 (fun u50 H locs hw50 hP hD hS => ?_)
        rcases hw50 with ⟨hc50, rfl⟩ | ⟨hc50, rfl⟩
        · skip
          have hP : PP G (rv G h (oI q11 2 (nI (sk tx len (nE tx len ((pa.1 12) + 1)) + 1))) w) H := hP
          have hD : va_D A (rv G h (oI q11 2 (nI (sk tx len (nE tx len ((pa.1 12) + 1)) + 1))) w) := hD
          have hge50 : (nE tx len ((pa.1 12) + 1)) ≤ sk tx len (nE tx len ((pa.1 12) + 1)) := rn_ge _
          have hle50 : sk tx len (nE tx len ((pa.1 12) + 1)) ≤ len := rn_le (by omega)
          have hcl50 := hd_c hc50 (by first | assumption | decide)
          refine lv_aload_n hx hb dX1_beginBlock_53 rfl (lv_at hl 1 rfl) ?_
          refine va_get (D := gD G) (ci := 1) (v := .int (q11.1 4)) (C := RX1) (T := TX1) (N := 10) hx hb hts hiX1 hown hK hP 0 rfl rfl 4 (by decide) k25 (fun _ h9 => h9) rfl dX1_beginBlock_54 ?_
          refine topE ((hR11.1 4 (by decide)).trans (h40)) ?_
          refine lv_if_ne (tgt := 99) hx hb dX1_beginBlock_57 (by decide) (fun c9 => absurd (by decide) c9) (fun _ => ?_)
          refine lv_aload_n hx hb dX1_beginBlock_60 rfl (lv_at hl 1 rfl) ?_
          refine va_get (D := gD G) (ci := 1) (v := .int (q11.1 8)) (C := RX1) (T := TX1) (N := 10) hx hb hts hiX1 hown hK hP 0 rfl rfl 8 (by decide) k38 (fun _ h9 => h9) rfl dX1_beginBlock_61 ?_
          refine topE ((hR11.1 8 (by decide)).trans (e8)) ?_
          refine lv_bipush (v := nI 48) hx hb dX1_beginBlock_64 (by decide) ?_
          refine lv_icmp_ge (tgt := 99) hx hb dX1_beginBlock_66 (by decide) (fun c66 => ?_) (fun c66 => ?_)
          · skip
            have n66 : 48 ≤ (pa.1 23) := (nI_leI (a := 48) (b := pa.1 23) (by omega) (by omega)).mp c66
            exact absurd n66 (by omega)
          · skip
            have n66 : ¬ (48 ≤ (pa.1 23)) := fun q9 => c66 ((nI_leI (a := 48) (b := pa.1 23) (by omega) (by omega)).mpr q9)
            refine lv_aload_n hx hb dX1_beginBlock_69 rfl (lv_at hl 1 rfl) ?_
            refine va_get (D := gD G) (ci := 1) (v := .ref (h 7)) (C := RX1) (T := TX1) (N := 10) hx hb hts hiX1 hown hK hP 0 rfl rfl 6 (by decide) k31 (fun _ h9 => h9) rfl dX1_beginBlock_70 ?_
            refine lv_aload_n hx hb dX1_beginBlock_73 rfl (lv_at hl 1 rfl) ?_
            refine va_get (D := gD G) (ci := 1) (v := .int (q11.1 8)) (C := RX1) (T := TX1) (N := 10) hx hb hts hiX1 hown hK hP 0 rfl rfl 8 (by decide) k38 (fun _ h9 => h9) rfl dX1_beginBlock_74 ?_
            refine topE ((hR11.1 8 (by decide)).trans (e8)) ?_
            refine lv_iload_n hx hb dX1_beginBlock_77 rfl (lv_at hl 2 rfl) ?_
            refine zastN (f := q11.2 6) (n := 48) (k := pa.1 23) hx hb hK hP hD hS 2 rfl rfl (by omega) (by assumption) dX1_beginBlock_78 (fun H locs hP hD hS => ?_)
            have hP : PP G (rv G h (oA (oI q11 2 (nI (sk tx len (nE tx len ((pa.1 12) + 1)) + 1))) 6 (upd (q11.2 6) (pa.1 23) z1)) w) H := hP
            have hD : va_D A (rv G h (oA (oI q11 2 (nI (sk tx len (nE tx len ((pa.1 12) + 1)) + 1))) 6 (upd (q11.2 6) (pa.1 23) z1)) w) := hD
            refine lv_aload_n hx hb dX1_beginBlock_79 rfl (lv_at hl 1 rfl) ?_
            refine va_get (D := gD G) (ci := 1) (v := .ref (h 8)) (C := RX1) (T := TX1) (N := 10) hx hb hts hiX1 hown hK hP 0 rfl rfl 7 (by decide) k35 (fun _ h9 => h9) rfl dX1_beginBlock_80 ?_
            refine lv_aload_n hx hb dX1_beginBlock_83 rfl (lv_at hl 1 rfl) ?_
            refine va_get (D := gD G) (ci := 1) (v := .int (q11.1 8)) (C := RX1) (T := TX1) (N := 10) hx hb hts hiX1 hown hK hP 0 rfl rfl 8 (by decide) k38 (fun _ h9 => h9) rfl dX1_beginBlock_84 ?_
            refine topE ((hR11.1 8 (by decide)).trans (e8)) ?_
            refine lv_iload_n hx hb dX1_beginBlock_87 rfl (lv_at hl 0 rfl) ?_
            refine iastN (f := q11.2 7) (n := 48) (k := pa.1 23) hx hb hK hP hD hS 3 rfl rfl (by omega) dX1_beginBlock_88 (fun H locs hP hD hS => ?_)
            have hP : PP G (rv G h (oA (oA (oI q11 2 (nI (sk tx len (nE tx len ((pa.1 12) + 1)) + 1))) 6 (upd (q11.2 6) (pa.1 23) z1)) 7 (upd (q11.2 7) (pa.1 23) (nI (nV tx len ((pa.1 12) + 1))))) w) H := hP
            have hD : va_D A (rv G h (oA (oA (oI q11 2 (nI (sk tx len (nE tx len ((pa.1 12) + 1)) + 1))) 6 (upd (q11.2 6) (pa.1 23) z1)) 7 (upd (q11.2 7) (pa.1 23) (nI (nV tx len ((pa.1 12) + 1))))) w) := hD
            refine lv_aload_n hx hb dX1_beginBlock_89 rfl (lv_at hl 1 rfl) ?_
            refine lv_dup hx hb dX1_beginBlock_90 rfl ?_
            refine va_get (D := gD G) (ci := 1) (v := .int (q11.1 8)) (C := RX1) (T := TX1) (N := 10) hx hb hts hiX1 hown hK hP 0 rfl rfl 8 (by decide) k38 (fun _ h9 => h9) rfl dX1_beginBlock_91 ?_
            refine topE ((hR11.1 8 (by decide)).trans (e8)) ?_
            refine lv_iconst (v := nI 1) hx hb dX1_beginBlock_94 (by decide) ?_
            refine lv_iadd hx hb dX1_beginBlock_95 ?_
            refine topE (y := nI ((pa.1 23) + 1)) (nI_add (pa.1 23) 1) ?_
            refine va_put (D := gD G) (ci := 1) (v := .int (nI ((pa.1 23) + 1))) (ty := .int) (C := RX1) (T := TX1) (N := 10) hx hb hts hiX1 tyX1 tyX1_ok nmX1 hown hK hP hD hS 0 rfl rfl 8 (by decide) k38 (fun _ h9 => h9) rfl (tyX1_ok 8 (by decide)) (rfl) (rfl) (Nat.le_of_ble_eq_true rfl) dX1_beginBlock_96 (fun H locs hP hD hS => ?_)
            have hP : PP G (rv G h (oI (oA (oA (oI q11 2 (nI (sk tx len (nE tx len ((pa.1 12) + 1)) + 1))) 6 (upd (q11.2 6) (pa.1 23) z1)) 7 (upd (q11.2 7) (pa.1 23) (nI (nV tx len ((pa.1 12) + 1))))) 8 (nI ((pa.1 23) + 1))) w) H := hP
            have hD : va_D A (rv G h (oI (oA (oA (oI q11 2 (nI (sk tx len (nE tx len ((pa.1 12) + 1)) + 1))) 6 (upd (q11.2 6) (pa.1 23) z1)) 7 (upd (q11.2 7) (pa.1 23) (nI (nV tx len ((pa.1 12) + 1))))) 8 (nI ((pa.1 23) + 1))) w) := hD
            exact W.vret hx hb hr (fun t ht hW => ⟨⟨(oI (oA (oA (oI q11 2 (nI (sk tx len (nE tx len ((pa.1 12) + 1)) + 1))) 6 (upd (q11.2 6) (pa.1 23) z1)) 7 (upd (q11.2 7) (pa.1 23) (nI (nV tx len ((pa.1 12) + 1))))) 8 (nI ((pa.1 23) + 1)), w), rfl, by
                                        have HQ : bST tx len (decide (¬ z1 = 0)) pa = (0, 0, bOK tx len (decide (¬ z1 = 0)) pa (pa.1 12 + 1)) := bST_0 hf11 hym hc50
                                        exact Or.inl ⟨_, _, bOK tx len (decide (¬ z1 = 0)) pa (pa.1 12 + 1), rfl, by repeat (first | exact rel.refl _ | exact rel.mono (by assumption) (by decide) (by decide) | refine rel.I (by decide) ?_ | refine rel.A (by decide) ?_ | refine rel.trans ?_ (rel.mono (by assumption) (by decide) (by decide))), HQ, ⟨(hR11.1 1 (by decide)).trans (e1), rfl, rfl, e0, e5, ⟨q240, (show sk tx len (nE tx len ((pa.1 12) + 1)) + 1 ≤ len by omega), (show pa.1 15 ≤ 24 by omega), (show pa.1 19 ≤ 120 by omega), (show (pa.1 23) + 1 ≤ sk tx len (nE tx len ((pa.1 12) + 1)) + 1 by omega), qpar⟩, RwC_b (y := z1) hrw (z01_if hz) (by show upd (q11.2 7) _ _ = _; rw [hR11.2 7 (by decide)]; rfl) (by show upd (q11.2 6) _ _ = _; rw [hR11.2 6 (by decide)]; rfl)⟩, (show pa.1 12 < sk tx len (nE tx len ((pa.1 12) + 1)) + 1 by omega), (by show PIb (upd (pa.2 24) (pa.1 23) (nI (nV tx len (pa.1 12 + 1)))) (upd (pa.2 25) (pa.1 23) (if (decide (¬ z1 = 0)) = true then 1 else 0)) (pa.1 23 + 1); exact PIb.push hPb hV11b hym rfl), (show (pa.1 23) + 1 ≤ 48 by omega)⟩, show PP G (rv G h (oI (oA (oA (oI q11 2 (nI (sk tx len (nE tx len ((pa.1 12) + 1)) + 1))) 6 (upd (q11.2 6) (pa.1 23) z1)) 7 (upd (q11.2 7) (pa.1 23) (nI (nV tx len ((pa.1 12) + 1))))) 8 (nI ((pa.1 23) + 1))) w) t.heap by rw [ht]; exact hP⟩, hS.F ht⟩) hS.2.2 dX1_beginBlock_99
        · skip
          have hP : PP G (rv G h (oI (oI (oI q11 2 (nI (sk tx len (nE tx len ((pa.1 12) + 1))))) 4 (nI 1)) 5 (nI (sk tx len (nE tx len ((pa.1 12) + 1))))) w) H := hP
          have hD : va_D A (rv G h (oI (oI (oI q11 2 (nI (sk tx len (nE tx len ((pa.1 12) + 1))))) 4 (nI 1)) 5 (nI (sk tx len (nE tx len ((pa.1 12) + 1))))) w) := hD
          have hge50 : (nE tx len ((pa.1 12) + 1)) ≤ sk tx len (nE tx len ((pa.1 12) + 1)) := rn_ge _
          have hle50 : sk tx len (nE tx len ((pa.1 12) + 1)) ≤ len := rn_le (by omega)
          refine lv_aload_n hx hb dX1_beginBlock_53 rfl (lv_at hl 1 rfl) ?_
          refine va_get (D := gD G) (ci := 1) (v := .int (nI 1)) (C := RX1) (T := TX1) (N := 10) hx hb hts hiX1 hown hK hP 0 rfl rfl 4 (by decide) k25 (fun _ h9 => h9) rfl dX1_beginBlock_54 ?_
          refine lv_if_ne (tgt := 99) hx hb dX1_beginBlock_57 (by decide) (fun _ => ?_) (fun c9 => absurd c9 (by decide))
          exact W.vret hx hb hr (fun t ht hW => ⟨⟨(oI (oI (oI q11 2 (nI (sk tx len (nE tx len ((pa.1 12) + 1))))) 4 (nI 1)) 5 (nI (sk tx len (nE tx len ((pa.1 12) + 1)))), w), rfl, Or.inr ⟨_, _, 1, (sk tx len (nE tx len (pa.1 12 + 1))), pa, rfl, by repeat (first | exact rel.refl _ | exact rel.mono (by assumption) (by decide) (by decide) | refine rel.I (by decide) ?_ | refine rel.A (by decide) ?_ | refine rel.trans ?_ (rel.mono (by assumption) (by decide) (by decide))), bST_1 hf11 hym hc50, by omega, by omega, rfl, rfl, ⟨sk tx len (nE tx len ((pa.1 12) + 1)), pa.1 23, pa.1 15, pa.1 19, rfl, by omega, (hR11.1 8 (by decide)).trans (e8), by omega, e0, by omega, e5, by omega⟩⟩, show PP G (rv G h (oI (oI (oI q11 2 (nI (sk tx len (nE tx len ((pa.1 12) + 1))))) 4 (nI 1)) 5 (nI (sk tx len (nE tx len ((pa.1 12) + 1))))) w) t.heap by rw [ht]; exact hP⟩, hS.F ht⟩) hS.2.2 dX1_beginBlock_99
      · skip
        refine lv_aload_n hx hb dX1_beginBlock_27 rfl (lv_at hl 1 rfl) ?_
        refine cRi (w := rv G h q11 w) (As := []) (rest := []) ⟨hx, hb, hml, hown, hts⟩ (mt_X1_takersAround l G h q11 w (pa.1 23) (pa.2 24) (pa.2 25) ((hR11.1 8 (by decide)).trans (e8)) (by first | assumption | omega) (by rw [hR11.2 7 (by decide)]; exact hrw.2.2.2.2.2.2.1) (by rw [hR11.2 6 (by decide)]; exact hrw.2.2.2.2.2.2.2.1) (by first | assumption | omega)) (cwV 0 hts gX1_beginBlock_X1_takersAround rfl rfl rfl ⟨rfl, hd_X1_takersAround⟩ ⟨Nat.le_of_ble_eq_true rfl, Nat.le_of_ble_eq_true rfl⟩) hK hN hP 0 1 rfl rfl rfl hl.1 rfl (Nat.le_of_ble_eq_true rfl) ⟨Nat.zero_le _, Nat.zero_le _⟩ dX1_beginBlock_28 (fun r28 hw28 => ?_)
        obtain rfl := hw28
        refine lv_iload_n hx hb dX1_beginBlock_31 rfl (lv_at hl 0 rfl) ?_
        refine cSi (As := [.int (tkA (pa.2 24) (pa.2 25) (pa.1 23)), .int (nI (nV tx len ((pa.1 12) + 1)))]) (rest := []) ⟨hx, hb, hml, hown, hts⟩ (mt_X3_holdsF l (tkA (pa.2 24) (pa.2 25) (pa.1 23)) (nI (nV tx len ((pa.1 12) + 1)))) (va_cwS 2 hts gX1_beginBlock_X3_holds rfl rfl rfl hd_X3_holds ⟨Nat.le_of_ble_eq_true rfl, Nat.le_of_ble_eq_true rfl⟩) rfl hl.1 rfl (Nat.le_of_ble_eq_true rfl) ⟨Nat.zero_le _, Nat.zero_le _⟩ dX1_beginBlock_32 (fun r32 hw32 => ?_)
        rcases hw32 with ⟨rfl, hy32⟩ | ⟨rfl, hn32⟩
        · skip
          refine lv_if_eq (tgt := 47) hx hb dX1_beginBlock_35 (by decide) (fun c9 => absurd c9 (by decide)) (fun _ => ?_)
          have hnm : ¬ mayB (pa.2 24) (pa.2 25) (nV tx len (pa.1 12 + 1)) (decide (¬ z1 = 0)) (pa.1 23) = true := fun q => by rcases ((mayB_iff hV11b hPb).mp q).2 with q2 | q2; exact absurd c24 (of_decide_eq_true q2); exact q2 (hol_t hy32 (by omega) rfl)
          refine lv_aload_n hx hb dX1_beginBlock_38 rfl (lv_at hl 1 rfl) ?_
          refine lv_iconst (v := nI 4) hx hb dX1_beginBlock_39 (by decide) ?_
          refine lv_aload_n hx hb dX1_beginBlock_40 rfl (lv_at hl 1 rfl) ?_
          refine va_get (D := gD G) (ci := 1) (v := .int (q11.1 3)) (C := RX1) (T := TX1) (N := 10) hx hb hts hiX1 hown hK hP 0 rfl rfl 3 (by decide) k22 (fun _ h9 => h9) rfl dX1_beginBlock_41 ?_
          refine topE e311 ?_
          refine cXv (As := [.int (nI 4), .int (nI (sk tx len ((pa.1 12) + 1)))]) (rest := []) (S := oS × oS) (wa := rv G h q11 w) (w1 := fun v => rv G h v.1 v.2) ⟨hx, hb, hml, hown, hts⟩ (mt_X1_fail0 l G h _ q11 w (nI 4) (nI (sk tx len ((pa.1 12) + 1))) ((hR11.1 4 (by decide)).trans (h40))) (cwV 2 hts gX1_beginBlock_X1_fail rfl rfl rfl ⟨rfl, hd_X1_fail⟩ ⟨Nat.le_of_ble_eq_true rfl, Nat.le_of_ble_eq_true rfl⟩) hK hN hP hD hS hA (fun _ => rfl) 0 1 rfl rfl rfl hl.1 rfl (Nat.le_of_ble_eq_true rfl) ⟨Nat.zero_le _, Nat.zero_le _⟩ dX1_beginBlock_44 (fun u44 H locs hw44 hP hD hS => ?_)
          obtain rfl := hw44
          have hP : PP G (rv G h (oI (oI q11 4 (nI 4)) 5 (nI (sk tx len ((pa.1 12) + 1)))) w) H := hP
          have hD : va_D A (rv G h (oI (oI q11 4 (nI 4)) 5 (nI (sk tx len ((pa.1 12) + 1)))) w) := hD
          refine lv_aload_n hx hb dX1_beginBlock_47 rfl (lv_at hl 1 rfl) ?_
          refine lv_bipush (v := nI 40) hx hb dX1_beginBlock_48 (by decide) ?_
          refine cXv (As := [.int (nI 40)]) (rest := []) (S := oS × oS) (wa := rv G h (oI (oI q11 4 (nI 4)) 5 (nI (sk tx len ((pa.1 12) + 1)))) w) (w1 := fun v => rv G h v.1 v.2) ⟨hx, hb, hml, hown, hts⟩ (mt_X1_expect1 l G h _ (oI (oI q11 4 (nI 4)) 5 (nI (sk tx len ((pa.1 12) + 1)))) w len (nE tx len ((pa.1 12) + 1)) 4 tx (nI 40) ((hR11.1 1 (by decide)).trans (e1)) (hb11) (rfl) (by first | assumption | omega) (by first | assumption | omega) (htx11) (by first | assumption | omega) (by first | assumption | omega) (by decide)) (cwV 1 hts gX1_beginBlock_X1_expect rfl rfl rfl ⟨rfl, hd_X1_expect⟩ ⟨Nat.le_of_ble_eq_true rfl, Nat.le_of_ble_eq_true rfl⟩) hK hN hP hD hS hA (fun _ => rfl) 0 1 rfl rfl rfl hl.1 rfl (Nat.le_of_ble_eq_true rfl) ⟨Nat.zero_le _, Nat.zero_le _⟩ dX1_beginBlock_50 (fun u50 H locs hw50 hP hD hS => ?_)
          obtain rfl := hw50
          have hP : PP G (rv G h (oI (oI (oI q11 4 (nI 4)) 5 (nI (sk tx len ((pa.1 12) + 1)))) 2 (nI (sk tx len (nE tx len ((pa.1 12) + 1))))) w) H := hP
          have hD : va_D A (rv G h (oI (oI (oI q11 4 (nI 4)) 5 (nI (sk tx len ((pa.1 12) + 1)))) 2 (nI (sk tx len (nE tx len ((pa.1 12) + 1))))) w) := hD
          have hge50 : (nE tx len ((pa.1 12) + 1)) ≤ sk tx len (nE tx len ((pa.1 12) + 1)) := rn_ge _
          have hle50 : sk tx len (nE tx len ((pa.1 12) + 1)) ≤ len := rn_le (by omega)
          refine lv_aload_n hx hb dX1_beginBlock_53 rfl (lv_at hl 1 rfl) ?_
          refine va_get (D := gD G) (ci := 1) (v := .int (nI 4)) (C := RX1) (T := TX1) (N := 10) hx hb hts hiX1 hown hK hP 0 rfl rfl 4 (by decide) k25 (fun _ h9 => h9) rfl dX1_beginBlock_54 ?_
          refine lv_if_ne (tgt := 99) hx hb dX1_beginBlock_57 (by decide) (fun _ => ?_) (fun c9 => absurd c9 (by decide))
          exact W.vret hx hb hr (fun t ht hW => ⟨⟨(oI (oI (oI q11 4 (nI 4)) 5 (nI (sk tx len ((pa.1 12) + 1)))) 2 (nI (sk tx len (nE tx len ((pa.1 12) + 1)))), w), rfl, Or.inr ⟨_, _, 4, (sk tx len (pa.1 12 + 1)), pa, rfl, by repeat (first | exact rel.refl _ | exact rel.mono (by assumption) (by decide) (by decide) | refine rel.I (by decide) ?_ | refine rel.A (by decide) ?_ | refine rel.trans ?_ (rel.mono (by assumption) (by decide) (by decide))), bST_4 hf11 hnm, by omega, by omega, rfl, rfl, ⟨sk tx len (nE tx len ((pa.1 12) + 1)), pa.1 23, pa.1 15, pa.1 19, rfl, by omega, (hR11.1 8 (by decide)).trans (e8), by omega, e0, by omega, e5, by omega⟩⟩, show PP G (rv G h (oI (oI (oI q11 4 (nI 4)) 5 (nI (sk tx len ((pa.1 12) + 1)))) 2 (nI (sk tx len (nE tx len ((pa.1 12) + 1))))) w) t.heap by rw [ht]; exact hP⟩, hS.F ht⟩) hS.2.2 dX1_beginBlock_99
        · skip
          refine lv_if_eq (tgt := 47) hx hb dX1_beginBlock_35 (by decide) (fun _ => ?_) (fun c9 => absurd (by decide) c9)
          have hym : mayB (pa.2 24) (pa.2 25) (nV tx len (pa.1 12 + 1)) (decide (¬ z1 = 0)) (pa.1 23) = true := (mayB_iff hV11b hPb).mpr ⟨Int32.not_le.mp c20, Or.inr (hol_f hn32 (by omega) rfl)⟩
          have h48 := PIb_48 hPb hV11b (Int32.not_le.mp c20)
          refine lv_aload_n hx hb dX1_beginBlock_47 rfl (lv_at hl 1 rfl) ?_
          refine lv_bipush (v := nI 40) hx hb dX1_beginBlock_48 (by decide) ?_
          refine cXv (As := [.int (nI 40)]) (rest := []) (S := oS × oS) (wa := rv G h q11 w) (w1 := fun v => rv G h v.1 v.2) ⟨hx, hb, hml, hown, hts⟩ (mt_X1_expect0 l G h _ q11 w len (nE tx len ((pa.1 12) + 1)) tx (nI 40) ((hR11.1 1 (by decide)).trans (e1)) (hb11) (by first | assumption | omega) (by first | assumption | omega) (htx11) ((hR11.1 4 (by decide)).trans (h40)) (by decide)) (cwV 1 hts gX1_beginBlock_X1_expect rfl rfl rfl ⟨rfl, hd_X1_expect⟩ ⟨Nat.le_of_ble_eq_true rfl, Nat.le_of_ble_eq_true rfl⟩) hK hN hP hD hS hA (fun _ => rfl) 0 1 rfl rfl rfl hl.1 rfl (Nat.le_of_ble_eq_true rfl) ⟨Nat.zero_le _, Nat.zero_le _⟩ dX1_beginBlock_50 (fun u50 H locs hw50 hP hD hS => ?_)
          rcases hw50 with ⟨hc50, rfl⟩ | ⟨hc50, rfl⟩
          · skip
            have hP : PP G (rv G h (oI q11 2 (nI (sk tx len (nE tx len ((pa.1 12) + 1)) + 1))) w) H := hP
            have hD : va_D A (rv G h (oI q11 2 (nI (sk tx len (nE tx len ((pa.1 12) + 1)) + 1))) w) := hD
            have hge50 : (nE tx len ((pa.1 12) + 1)) ≤ sk tx len (nE tx len ((pa.1 12) + 1)) := rn_ge _
            have hle50 : sk tx len (nE tx len ((pa.1 12) + 1)) ≤ len := rn_le (by omega)
            have hcl50 := hd_c hc50 (by first | assumption | decide)
            refine lv_aload_n hx hb dX1_beginBlock_53 rfl (lv_at hl 1 rfl) ?_
            refine va_get (D := gD G) (ci := 1) (v := .int (q11.1 4)) (C := RX1) (T := TX1) (N := 10) hx hb hts hiX1 hown hK hP 0 rfl rfl 4 (by decide) k25 (fun _ h9 => h9) rfl dX1_beginBlock_54 ?_
            refine topE ((hR11.1 4 (by decide)).trans (h40)) ?_
            refine lv_if_ne (tgt := 99) hx hb dX1_beginBlock_57 (by decide) (fun c9 => absurd (by decide) c9) (fun _ => ?_)
            refine lv_aload_n hx hb dX1_beginBlock_60 rfl (lv_at hl 1 rfl) ?_
            refine va_get (D := gD G) (ci := 1) (v := .int (q11.1 8)) (C := RX1) (T := TX1) (N := 10) hx hb hts hiX1 hown hK hP 0 rfl rfl 8 (by decide) k38 (fun _ h9 => h9) rfl dX1_beginBlock_61 ?_
            refine topE ((hR11.1 8 (by decide)).trans (e8)) ?_
            refine lv_bipush (v := nI 48) hx hb dX1_beginBlock_64 (by decide) ?_
            refine lv_icmp_ge (tgt := 99) hx hb dX1_beginBlock_66 (by decide) (fun c66 => ?_) (fun c66 => ?_)
            · skip
              have n66 : 48 ≤ (pa.1 23) := (nI_leI (a := 48) (b := pa.1 23) (by omega) (by omega)).mp c66
              exact absurd n66 (by omega)
            · skip
              have n66 : ¬ (48 ≤ (pa.1 23)) := fun q9 => c66 ((nI_leI (a := 48) (b := pa.1 23) (by omega) (by omega)).mpr q9)
              refine lv_aload_n hx hb dX1_beginBlock_69 rfl (lv_at hl 1 rfl) ?_
              refine va_get (D := gD G) (ci := 1) (v := .ref (h 7)) (C := RX1) (T := TX1) (N := 10) hx hb hts hiX1 hown hK hP 0 rfl rfl 6 (by decide) k31 (fun _ h9 => h9) rfl dX1_beginBlock_70 ?_
              refine lv_aload_n hx hb dX1_beginBlock_73 rfl (lv_at hl 1 rfl) ?_
              refine va_get (D := gD G) (ci := 1) (v := .int (q11.1 8)) (C := RX1) (T := TX1) (N := 10) hx hb hts hiX1 hown hK hP 0 rfl rfl 8 (by decide) k38 (fun _ h9 => h9) rfl dX1_beginBlock_74 ?_
              refine topE ((hR11.1 8 (by decide)).trans (e8)) ?_
              refine lv_iload_n hx hb dX1_beginBlock_77 rfl (lv_at hl 2 rfl) ?_
              refine zastN (f := q11.2 6) (n := 48) (k := pa.1 23) hx hb hK hP hD hS 2 rfl rfl (by omega) (by assumption) dX1_beginBlock_78 (fun H locs hP hD hS => ?_)
              have hP : PP G (rv G h (oA (oI q11 2 (nI (sk tx len (nE tx len ((pa.1 12) + 1)) + 1))) 6 (upd (q11.2 6) (pa.1 23) z1)) w) H := hP
              have hD : va_D A (rv G h (oA (oI q11 2 (nI (sk tx len (nE tx len ((pa.1 12) + 1)) + 1))) 6 (upd (q11.2 6) (pa.1 23) z1)) w) := hD
              refine lv_aload_n hx hb dX1_beginBlock_79 rfl (lv_at hl 1 rfl) ?_
              refine va_get (D := gD G) (ci := 1) (v := .ref (h 8)) (C := RX1) (T := TX1) (N := 10) hx hb hts hiX1 hown hK hP 0 rfl rfl 7 (by decide) k35 (fun _ h9 => h9) rfl dX1_beginBlock_80 ?_
              refine lv_aload_n hx hb dX1_beginBlock_83 rfl (lv_at hl 1 rfl) ?_
              refine va_get (D := gD G) (ci := 1) (v := .int (q11.1 8)) (C := RX1) (T := TX1) (N := 10) hx hb hts hiX1 hown hK hP 0 rfl rfl 8 (by decide) k38 (fun _ h9 => h9) rfl dX1_beginBlock_84 ?_
              refine topE ((hR11.1 8 (by decide)).trans (e8)) ?_
              refine lv_iload_n hx hb dX1_beginBlock_87 rfl (lv_at hl 0 rfl) ?_
              refine iastN (f := q11.2 7) (n := 48) (k := pa.1 23) hx hb hK hP hD hS 3 rfl rfl (by omega) dX1_beginBlock_88 (fun H locs hP hD hS => ?_)
              have hP : PP G (rv G h (oA (oA (oI q11 2 (nI (sk tx len (nE tx len ((pa.1 12) + 1)) + 1))) 6 (upd (q11.2 6) (pa.1 23) z1)) 7 (upd (q11.2 7) (pa.1 23) (nI (nV tx len ((pa.1 12) + 1))))) w) H := hP
              have hD : va_D A (rv G h (oA (oA (oI q11 2 (nI (sk tx len (nE tx len ((pa.1 12) + 1)) + 1))) 6 (upd (q11.2 6) (pa.1 23) z1)) 7 (upd (q11.2 7) (pa.1 23) (nI (nV tx len ((pa.1 12) + 1))))) w) := hD
              refine lv_aload_n hx hb dX1_beginBlock_89 rfl (lv_at hl 1 rfl) ?_
              refine lv_dup hx hb dX1_beginBlock_90 rfl ?_
              refine va_get (D := gD G) (ci := 1) (v := .int (q11.1 8)) (C := RX1) (T := TX1) (N := 10) hx hb hts hiX1 hown hK hP 0 rfl rfl 8 (by decide) k38 (fun _ h9 => h9) rfl dX1_beginBlock_91 ?_
              refine topE ((hR11.1 8 (by decide)).trans (e8)) ?_
              refine lv_iconst (v := nI 1) hx hb dX1_beginBlock_94 (by decide) ?_
              refine lv_iadd hx hb dX1_beginBlock_95 ?_
              refine topE (y := nI ((pa.1 23) + 1)) (nI_add (pa.1 23) 1) ?_
              refine va_put (D := gD G) (ci := 1) (v := .int (nI ((pa.1 23) + 1))) (ty := .int) (C := RX1) (T := TX1) (N := 10) hx hb hts hiX1 tyX1 tyX1_ok nmX1 hown hK hP hD hS 0 rfl rfl 8 (by decide) k38 (fun _ h9 => h9) rfl (tyX1_ok 8 (by decide)) (rfl) (rfl) (Nat.le_of_ble_eq_true rfl) dX1_beginBlock_96 (fun H locs hP hD hS => ?_)
              have hP : PP G (rv G h (oI (oA (oA (oI q11 2 (nI (sk tx len (nE tx len ((pa.1 12) + 1)) + 1))) 6 (upd (q11.2 6) (pa.1 23) z1)) 7 (upd (q11.2 7) (pa.1 23) (nI (nV tx len ((pa.1 12) + 1))))) 8 (nI ((pa.1 23) + 1))) w) H := hP
              have hD : va_D A (rv G h (oI (oA (oA (oI q11 2 (nI (sk tx len (nE tx len ((pa.1 12) + 1)) + 1))) 6 (upd (q11.2 6) (pa.1 23) z1)) 7 (upd (q11.2 7) (pa.1 23) (nI (nV tx len ((pa.1 12) + 1))))) 8 (nI ((pa.1 23) + 1))) w) := hD
              exact W.vret hx hb hr (fun t ht hW => ⟨⟨(oI (oA (oA (oI q11 2 (nI (sk tx len (nE tx len ((pa.1 12) + 1)) + 1))) 6 (upd (q11.2 6) (pa.1 23) z1)) 7 (upd (q11.2 7) (pa.1 23) (nI (nV tx len ((pa.1 12) + 1))))) 8 (nI ((pa.1 23) + 1)), w), rfl, by
                                        have HQ : bST tx len (decide (¬ z1 = 0)) pa = (0, 0, bOK tx len (decide (¬ z1 = 0)) pa (pa.1 12 + 1)) := bST_0 hf11 hym hc50
                                        exact Or.inl ⟨_, _, bOK tx len (decide (¬ z1 = 0)) pa (pa.1 12 + 1), rfl, by repeat (first | exact rel.refl _ | exact rel.mono (by assumption) (by decide) (by decide) | refine rel.I (by decide) ?_ | refine rel.A (by decide) ?_ | refine rel.trans ?_ (rel.mono (by assumption) (by decide) (by decide))), HQ, ⟨(hR11.1 1 (by decide)).trans (e1), rfl, rfl, e0, e5, ⟨q240, (show sk tx len (nE tx len ((pa.1 12) + 1)) + 1 ≤ len by omega), (show pa.1 15 ≤ 24 by omega), (show pa.1 19 ≤ 120 by omega), (show (pa.1 23) + 1 ≤ sk tx len (nE tx len ((pa.1 12) + 1)) + 1 by omega), qpar⟩, RwC_b (y := z1) hrw (z01_if hz) (by show upd (q11.2 7) _ _ = _; rw [hR11.2 7 (by decide)]; rfl) (by show upd (q11.2 6) _ _ = _; rw [hR11.2 6 (by decide)]; rfl)⟩, (show pa.1 12 < sk tx len (nE tx len ((pa.1 12) + 1)) + 1 by omega), (by show PIb (upd (pa.2 24) (pa.1 23) (nI (nV tx len (pa.1 12 + 1)))) (upd (pa.2 25) (pa.1 23) (if (decide (¬ z1 = 0)) = true then 1 else 0)) (pa.1 23 + 1); exact PIb.push hPb hV11b hym rfl), (show (pa.1 23) + 1 ≤ 48 by omega)⟩, show PP G (rv G h (oI (oA (oA (oI q11 2 (nI (sk tx len (nE tx len ((pa.1 12) + 1)) + 1))) 6 (upd (q11.2 6) (pa.1 23) z1)) 7 (upd (q11.2 7) (pa.1 23) (nI (nV tx len ((pa.1 12) + 1))))) 8 (nI ((pa.1 23) + 1))) w) t.heap by rw [ht]; exact hP⟩, hS.F ht⟩) hS.2.2 dX1_beginBlock_99
          · skip
            have hP : PP G (rv G h (oI (oI (oI q11 2 (nI (sk tx len (nE tx len ((pa.1 12) + 1))))) 4 (nI 1)) 5 (nI (sk tx len (nE tx len ((pa.1 12) + 1))))) w) H := hP
            have hD : va_D A (rv G h (oI (oI (oI q11 2 (nI (sk tx len (nE tx len ((pa.1 12) + 1))))) 4 (nI 1)) 5 (nI (sk tx len (nE tx len ((pa.1 12) + 1))))) w) := hD
            have hge50 : (nE tx len ((pa.1 12) + 1)) ≤ sk tx len (nE tx len ((pa.1 12) + 1)) := rn_ge _
            have hle50 : sk tx len (nE tx len ((pa.1 12) + 1)) ≤ len := rn_le (by omega)
            refine lv_aload_n hx hb dX1_beginBlock_53 rfl (lv_at hl 1 rfl) ?_
            refine va_get (D := gD G) (ci := 1) (v := .int (nI 1)) (C := RX1) (T := TX1) (N := 10) hx hb hts hiX1 hown hK hP 0 rfl rfl 4 (by decide) k25 (fun _ h9 => h9) rfl dX1_beginBlock_54 ?_
            refine lv_if_ne (tgt := 99) hx hb dX1_beginBlock_57 (by decide) (fun _ => ?_) (fun c9 => absurd c9 (by decide))
            exact W.vret hx hb hr (fun t ht hW => ⟨⟨(oI (oI (oI q11 2 (nI (sk tx len (nE tx len ((pa.1 12) + 1))))) 4 (nI 1)) 5 (nI (sk tx len (nE tx len ((pa.1 12) + 1)))), w), rfl, Or.inr ⟨_, _, 1, (sk tx len (nE tx len (pa.1 12 + 1))), pa, rfl, by repeat (first | exact rel.refl _ | exact rel.mono (by assumption) (by decide) (by decide) | refine rel.I (by decide) ?_ | refine rel.A (by decide) ?_ | refine rel.trans ?_ (rel.mono (by assumption) (by decide) (by decide))), bST_1 hf11 hym hc50, by omega, by omega, rfl, rfl, ⟨sk tx len (nE tx len ((pa.1 12) + 1)), pa.1 23, pa.1 15, pa.1 19, rfl, by omega, (hR11.1 8 (by decide)).trans (e8), by omega, e0, by omega, e5, by omega⟩⟩, show PP G (rv G h (oI (oI (oI q11 2 (nI (sk tx len (nE tx len ((pa.1 12) + 1))))) 4 (nI 1)) 5 (nI (sk tx len (nE tx len ((pa.1 12) + 1))))) w) t.heap by rw [ht]; exact hP⟩, hS.F ht⟩) hS.2.2 dX1_beginBlock_99
  · skip
    have hP : PP G (rv G h q11 w) H := hP
    have hD : va_D A (rv G h q11 w) := hD
    have htx11 : rwE (q11.2 0) tx len := by rw [hR11.2 0 (by decide)]; exact (htx)
    have hEg11 : ((pa.1 12) + 1) ≤ nE tx len ((pa.1 12) + 1) := nE_ge _ _ _
    have hEl11 : nE tx len ((pa.1 12) + 1) ≤ len := nE_le (by omega)
    refine lv_istore_n (lv' := [(2, .int r11), (0, .ref (h 0)), (1, .int z1)]) hx hb dX1_beginBlock_14 rfl hl (by decide) rfl (fun ls hl => ?_)
    refine lv_iload_n hx hb dX1_beginBlock_15 rfl (lv_at hl 0 rfl) ?_
    refine lv_aload_n hx hb dX1_beginBlock_16 rfl (lv_at hl 1 rfl) ?_
    refine cRi (w := rv G h q11 w) (As := []) (rest := [.int r11]) ⟨hx, hb, hml, hown, hts⟩ (mt_X1_bringerAround l G h q11 w (pa.1 23) (pa.2 24) (pa.2 25) ((hR11.1 8 (by decide)).trans (e8)) (by first | assumption | omega) (by rw [hR11.2 7 (by decide)]; exact hrw.2.2.2.2.2.2.1) (by rw [hR11.2 6 (by decide)]; exact hrw.2.2.2.2.2.2.2.1)) (cwV 0 hts gX1_beginBlock_X1_bringerAround rfl rfl rfl ⟨rfl, hd_X1_bringerAround⟩ ⟨Nat.le_of_ble_eq_true rfl, Nat.le_of_ble_eq_true rfl⟩) hK hN hP 0 1 rfl rfl rfl hl.1 rfl (Nat.le_of_ble_eq_true rfl) ⟨Nat.zero_le _, Nat.zero_le _⟩ dX1_beginBlock_17 (fun r17 hw17 => ?_)
    obtain rfl := hw17
    refine lv_icmp_le (tgt := 38) hx hb dX1_beginBlock_20 (by decide) (fun c20 => ?_) (fun c20 => ?_)
    · skip
      refine lv_aload_n hx hb dX1_beginBlock_38 rfl (lv_at hl 1 rfl) ?_
      refine lv_iconst (v := nI 4) hx hb dX1_beginBlock_39 (by decide) ?_
      refine lv_aload_n hx hb dX1_beginBlock_40 rfl (lv_at hl 1 rfl) ?_
      refine va_get (D := gD G) (ci := 1) (v := .int (q11.1 3)) (C := RX1) (T := TX1) (N := 10) hx hb hts hiX1 hown hK hP 0 rfl rfl 3 (by decide) k22 (fun _ h9 => h9) rfl dX1_beginBlock_41 ?_
      refine topE e311 ?_
      refine cXv (As := [.int (nI 4), .int (nI (sk tx len ((pa.1 12) + 1)))]) (rest := []) (S := oS × oS) (wa := rv G h q11 w) (w1 := fun v => rv G h v.1 v.2) ⟨hx, hb, hml, hown, hts⟩ (mt_X1_fail1 l G h _ q11 w f11 (nI 4) (nI (sk tx len ((pa.1 12) + 1))) (e411) (by first | assumption | omega) (by first | assumption | omega)) (cwV 2 hts gX1_beginBlock_X1_fail rfl rfl rfl ⟨rfl, hd_X1_fail⟩ ⟨Nat.le_of_ble_eq_true rfl, Nat.le_of_ble_eq_true rfl⟩) hK hN hP hD hS hA (fun _ => rfl) 0 1 rfl rfl rfl hl.1 rfl (Nat.le_of_ble_eq_true rfl) ⟨Nat.zero_le _, Nat.zero_le _⟩ dX1_beginBlock_44 (fun u44 H locs hw44 hP hD hS => ?_)
      obtain rfl := hw44
      have hP : PP G (rv G h q11 w) H := hP
      have hD : va_D A (rv G h q11 w) := hD
      refine lv_aload_n hx hb dX1_beginBlock_47 rfl (lv_at hl 1 rfl) ?_
      refine lv_bipush (v := nI 40) hx hb dX1_beginBlock_48 (by decide) ?_
      refine cXv (As := [.int (nI 40)]) (rest := []) (S := oS × oS) (wa := rv G h q11 w) (w1 := fun v => rv G h v.1 v.2) ⟨hx, hb, hml, hown, hts⟩ (mt_X1_expect1 l G h _ q11 w len (nE tx len ((pa.1 12) + 1)) f11 tx (nI 40) ((hR11.1 1 (by decide)).trans (e1)) (hb11) (e411) (by first | assumption | omega) (by first | assumption | omega) (htx11) (by first | assumption | omega) (by first | assumption | omega) (by decide)) (cwV 1 hts gX1_beginBlock_X1_expect rfl rfl rfl ⟨rfl, hd_X1_expect⟩ ⟨Nat.le_of_ble_eq_true rfl, Nat.le_of_ble_eq_true rfl⟩) hK hN hP hD hS hA (fun _ => rfl) 0 1 rfl rfl rfl hl.1 rfl (Nat.le_of_ble_eq_true rfl) ⟨Nat.zero_le _, Nat.zero_le _⟩ dX1_beginBlock_50 (fun u50 H locs hw50 hP hD hS => ?_)
      obtain rfl := hw50
      have hP : PP G (rv G h (oI q11 2 (nI (sk tx len (nE tx len ((pa.1 12) + 1))))) w) H := hP
      have hD : va_D A (rv G h (oI q11 2 (nI (sk tx len (nE tx len ((pa.1 12) + 1))))) w) := hD
      have hge50 : (nE tx len ((pa.1 12) + 1)) ≤ sk tx len (nE tx len ((pa.1 12) + 1)) := rn_ge _
      have hle50 : sk tx len (nE tx len ((pa.1 12) + 1)) ≤ len := rn_le (by omega)
      refine lv_aload_n hx hb dX1_beginBlock_53 rfl (lv_at hl 1 rfl) ?_
      refine va_get (D := gD G) (ci := 1) (v := .int (q11.1 4)) (C := RX1) (T := TX1) (N := 10) hx hb hts hiX1 hown hK hP 0 rfl rfl 4 (by decide) k25 (fun _ h9 => h9) rfl dX1_beginBlock_54 ?_
      refine topE e411 ?_
      refine lv_if_ne (tgt := 99) hx hb dX1_beginBlock_57 (by decide) (fun c57 => ?_) (fun c57 => ?_)
      · skip
        have n57 : ¬ (f11 = 0) := fun q9 => c57 ((nI_eq (a := f11) (b := 0) (by omega) (by omega)).mpr q9)
        exact W.vret hx hb hr (fun t ht hW => ⟨⟨(oI q11 2 (nI (sk tx len (nE tx len ((pa.1 12) + 1)))), w), rfl, Or.inr ⟨_, _, f11, (sk tx len (pa.1 12 + 1)), pa, rfl, by repeat (first | exact rel.refl _ | exact rel.mono (by assumption) (by decide) (by decide) | refine rel.I (by decide) ?_ | refine rel.A (by decide) ?_ | refine rel.trans ?_ (rel.mono (by assumption) (by decide) (by decide))), (bST_n (by omega)).trans (by rw [hf11]), by omega, by omega, e411, e511, ⟨sk tx len (nE tx len ((pa.1 12) + 1)), pa.1 23, pa.1 15, pa.1 19, rfl, by omega, (hR11.1 8 (by decide)).trans (e8), by omega, e0, by omega, e5, by omega⟩⟩, show PP G (rv G h (oI q11 2 (nI (sk tx len (nE tx len ((pa.1 12) + 1))))) w) t.heap by rw [ht]; exact hP⟩, hS.F ht⟩) hS.2.2 dX1_beginBlock_99
      · skip
        have n57 : f11 = 0 := (nI_eq (a := f11) (b := 0) (by omega) (by omega)).mp c57
        omega
    · skip
      refine lv_iload_n hx hb dX1_beginBlock_23 rfl (lv_at hl 2 rfl) ?_
      refine lv_if_ne (tgt := 47) hx hb dX1_beginBlock_24 (by decide) (fun c24 => ?_) (fun c24 => ?_)
      · skip
        refine lv_aload_n hx hb dX1_beginBlock_47 rfl (lv_at hl 1 rfl) ?_
        refine lv_bipush (v := nI 40) hx hb dX1_beginBlock_48 (by decide) ?_
        refine cXv (As := [.int (nI 40)]) (rest := []) (S := oS × oS) (wa := rv G h q11 w) (w1 := fun v => rv G h v.1 v.2) ⟨hx, hb, hml, hown, hts⟩ (mt_X1_expect1 l G h _ q11 w len (nE tx len ((pa.1 12) + 1)) f11 tx (nI 40) ((hR11.1 1 (by decide)).trans (e1)) (hb11) (e411) (by first | assumption | omega) (by first | assumption | omega) (htx11) (by first | assumption | omega) (by first | assumption | omega) (by decide)) (cwV 1 hts gX1_beginBlock_X1_expect rfl rfl rfl ⟨rfl, hd_X1_expect⟩ ⟨Nat.le_of_ble_eq_true rfl, Nat.le_of_ble_eq_true rfl⟩) hK hN hP hD hS hA (fun _ => rfl) 0 1 rfl rfl rfl hl.1 rfl (Nat.le_of_ble_eq_true rfl) ⟨Nat.zero_le _, Nat.zero_le _⟩ dX1_beginBlock_50 (fun u50 H locs hw50 hP hD hS => ?_)
        obtain rfl := hw50
        have hP : PP G (rv G h (oI q11 2 (nI (sk tx len (nE tx len ((pa.1 12) + 1))))) w) H := hP
        have hD : va_D A (rv G h (oI q11 2 (nI (sk tx len (nE tx len ((pa.1 12) + 1))))) w) := hD
        have hge50 : (nE tx len ((pa.1 12) + 1)) ≤ sk tx len (nE tx len ((pa.1 12) + 1)) := rn_ge _
        have hle50 : sk tx len (nE tx len ((pa.1 12) + 1)) ≤ len := rn_le (by omega)
        refine lv_aload_n hx hb dX1_beginBlock_53 rfl (lv_at hl 1 rfl) ?_
        refine va_get (D := gD G) (ci := 1) (v := .int (q11.1 4)) (C := RX1) (T := TX1) (N := 10) hx hb hts hiX1 hown hK hP 0 rfl rfl 4 (by decide) k25 (fun _ h9 => h9) rfl dX1_beginBlock_54 ?_
        refine topE e411 ?_
        refine lv_if_ne (tgt := 99) hx hb dX1_beginBlock_57 (by decide) (fun c57 => ?_) (fun c57 => ?_)
        · skip
          have n57 : ¬ (f11 = 0) := fun q9 => c57 ((nI_eq (a := f11) (b := 0) (by omega) (by omega)).mpr q9)
          exact W.vret hx hb hr (fun t ht hW => ⟨⟨(oI q11 2 (nI (sk tx len (nE tx len ((pa.1 12) + 1)))), w), rfl, Or.inr ⟨_, _, f11, (sk tx len (pa.1 12 + 1)), pa, rfl, by repeat (first | exact rel.refl _ | exact rel.mono (by assumption) (by decide) (by decide) | refine rel.I (by decide) ?_ | refine rel.A (by decide) ?_ | refine rel.trans ?_ (rel.mono (by assumption) (by decide) (by decide))), (bST_n (by omega)).trans (by rw [hf11]), by omega, by omega, e411, e511, ⟨sk tx len (nE tx len ((pa.1 12) + 1)), pa.1 23, pa.1 15, pa.1 19, rfl, by omega, (hR11.1 8 (by decide)).trans (e8), by omega, e0, by omega, e5, by omega⟩⟩, show PP G (rv G h (oI q11 2 (nI (sk tx len (nE tx len ((pa.1 12) + 1))))) w) t.heap by rw [ht]; exact hP⟩, hS.F ht⟩) hS.2.2 dX1_beginBlock_99
        · skip
          have n57 : f11 = 0 := (nI_eq (a := f11) (b := 0) (by omega) (by omega)).mp c57
          omega
      · skip
        refine lv_aload_n hx hb dX1_beginBlock_27 rfl (lv_at hl 1 rfl) ?_
        refine cRi (w := rv G h q11 w) (As := []) (rest := []) ⟨hx, hb, hml, hown, hts⟩ (mt_X1_takersAround l G h q11 w (pa.1 23) (pa.2 24) (pa.2 25) ((hR11.1 8 (by decide)).trans (e8)) (by first | assumption | omega) (by rw [hR11.2 7 (by decide)]; exact hrw.2.2.2.2.2.2.1) (by rw [hR11.2 6 (by decide)]; exact hrw.2.2.2.2.2.2.2.1) (by first | assumption | omega)) (cwV 0 hts gX1_beginBlock_X1_takersAround rfl rfl rfl ⟨rfl, hd_X1_takersAround⟩ ⟨Nat.le_of_ble_eq_true rfl, Nat.le_of_ble_eq_true rfl⟩) hK hN hP 0 1 rfl rfl rfl hl.1 rfl (Nat.le_of_ble_eq_true rfl) ⟨Nat.zero_le _, Nat.zero_le _⟩ dX1_beginBlock_28 (fun r28 hw28 => ?_)
        obtain rfl := hw28
        refine lv_iload_n hx hb dX1_beginBlock_31 rfl (lv_at hl 0 rfl) ?_
        refine cSi (As := [.int (tkA (pa.2 24) (pa.2 25) (pa.1 23)), .int r11]) (rest := []) ⟨hx, hb, hml, hown, hts⟩ (mt_X3_holdsF l (tkA (pa.2 24) (pa.2 25) (pa.1 23)) r11) (va_cwS 2 hts gX1_beginBlock_X3_holds rfl rfl rfl hd_X3_holds ⟨Nat.le_of_ble_eq_true rfl, Nat.le_of_ble_eq_true rfl⟩) rfl hl.1 rfl (Nat.le_of_ble_eq_true rfl) ⟨Nat.zero_le _, Nat.zero_le _⟩ dX1_beginBlock_32 (fun r32 hw32 => ?_)
        rcases hw32 with ⟨rfl, hy32⟩ | ⟨rfl, hn32⟩
        · skip
          refine lv_if_eq (tgt := 47) hx hb dX1_beginBlock_35 (by decide) (fun c9 => absurd c9 (by decide)) (fun _ => ?_)
          refine lv_aload_n hx hb dX1_beginBlock_38 rfl (lv_at hl 1 rfl) ?_
          refine lv_iconst (v := nI 4) hx hb dX1_beginBlock_39 (by decide) ?_
          refine lv_aload_n hx hb dX1_beginBlock_40 rfl (lv_at hl 1 rfl) ?_
          refine va_get (D := gD G) (ci := 1) (v := .int (q11.1 3)) (C := RX1) (T := TX1) (N := 10) hx hb hts hiX1 hown hK hP 0 rfl rfl 3 (by decide) k22 (fun _ h9 => h9) rfl dX1_beginBlock_41 ?_
          refine topE e311 ?_
          refine cXv (As := [.int (nI 4), .int (nI (sk tx len ((pa.1 12) + 1)))]) (rest := []) (S := oS × oS) (wa := rv G h q11 w) (w1 := fun v => rv G h v.1 v.2) ⟨hx, hb, hml, hown, hts⟩ (mt_X1_fail1 l G h _ q11 w f11 (nI 4) (nI (sk tx len ((pa.1 12) + 1))) (e411) (by first | assumption | omega) (by first | assumption | omega)) (cwV 2 hts gX1_beginBlock_X1_fail rfl rfl rfl ⟨rfl, hd_X1_fail⟩ ⟨Nat.le_of_ble_eq_true rfl, Nat.le_of_ble_eq_true rfl⟩) hK hN hP hD hS hA (fun _ => rfl) 0 1 rfl rfl rfl hl.1 rfl (Nat.le_of_ble_eq_true rfl) ⟨Nat.zero_le _, Nat.zero_le _⟩ dX1_beginBlock_44 (fun u44 H locs hw44 hP hD hS => ?_)
          obtain rfl := hw44
          have hP : PP G (rv G h q11 w) H := hP
          have hD : va_D A (rv G h q11 w) := hD
          refine lv_aload_n hx hb dX1_beginBlock_47 rfl (lv_at hl 1 rfl) ?_
          refine lv_bipush (v := nI 40) hx hb dX1_beginBlock_48 (by decide) ?_
          refine cXv (As := [.int (nI 40)]) (rest := []) (S := oS × oS) (wa := rv G h q11 w) (w1 := fun v => rv G h v.1 v.2) ⟨hx, hb, hml, hown, hts⟩ (mt_X1_expect1 l G h _ q11 w len (nE tx len ((pa.1 12) + 1)) f11 tx (nI 40) ((hR11.1 1 (by decide)).trans (e1)) (hb11) (e411) (by first | assumption | omega) (by first | assumption | omega) (htx11) (by first | assumption | omega) (by first | assumption | omega) (by decide)) (cwV 1 hts gX1_beginBlock_X1_expect rfl rfl rfl ⟨rfl, hd_X1_expect⟩ ⟨Nat.le_of_ble_eq_true rfl, Nat.le_of_ble_eq_true rfl⟩) hK hN hP hD hS hA (fun _ => rfl) 0 1 rfl rfl rfl hl.1 rfl (Nat.le_of_ble_eq_true rfl) ⟨Nat.zero_le _, Nat.zero_le _⟩ dX1_beginBlock_50 (fun u50 H locs hw50 hP hD hS => ?_)
          obtain rfl := hw50
          have hP : PP G (rv G h (oI q11 2 (nI (sk tx len (nE tx len ((pa.1 12) + 1))))) w) H := hP
          have hD : va_D A (rv G h (oI q11 2 (nI (sk tx len (nE tx len ((pa.1 12) + 1))))) w) := hD
          have hge50 : (nE tx len ((pa.1 12) + 1)) ≤ sk tx len (nE tx len ((pa.1 12) + 1)) := rn_ge _
          have hle50 : sk tx len (nE tx len ((pa.1 12) + 1)) ≤ len := rn_le (by omega)
          refine lv_aload_n hx hb dX1_beginBlock_53 rfl (lv_at hl 1 rfl) ?_
          refine va_get (D := gD G) (ci := 1) (v := .int (q11.1 4)) (C := RX1) (T := TX1) (N := 10) hx hb hts hiX1 hown hK hP 0 rfl rfl 4 (by decide) k25 (fun _ h9 => h9) rfl dX1_beginBlock_54 ?_
          refine topE e411 ?_
          refine lv_if_ne (tgt := 99) hx hb dX1_beginBlock_57 (by decide) (fun c57 => ?_) (fun c57 => ?_)
          · skip
            have n57 : ¬ (f11 = 0) := fun q9 => c57 ((nI_eq (a := f11) (b := 0) (by omega) (by omega)).mpr q9)
            exact W.vret hx hb hr (fun t ht hW => ⟨⟨(oI q11 2 (nI (sk tx len (nE tx len ((pa.1 12) + 1)))), w), rfl, Or.inr ⟨_, _, f11, (sk tx len (pa.1 12 + 1)), pa, rfl, by repeat (first | exact rel.refl _ | exact rel.mono (by assumption) (by decide) (by decide) | refine rel.I (by decide) ?_ | refine rel.A (by decide) ?_ | refine rel.trans ?_ (rel.mono (by assumption) (by decide) (by decide))), (bST_n (by omega)).trans (by rw [hf11]), by omega, by omega, e411, e511, ⟨sk tx len (nE tx len ((pa.1 12) + 1)), pa.1 23, pa.1 15, pa.1 19, rfl, by omega, (hR11.1 8 (by decide)).trans (e8), by omega, e0, by omega, e5, by omega⟩⟩, show PP G (rv G h (oI q11 2 (nI (sk tx len (nE tx len ((pa.1 12) + 1))))) w) t.heap by rw [ht]; exact hP⟩, hS.F ht⟩) hS.2.2 dX1_beginBlock_99
          · skip
            have n57 : f11 = 0 := (nI_eq (a := f11) (b := 0) (by omega) (by omega)).mp c57
            omega
        · skip
          refine lv_if_eq (tgt := 47) hx hb dX1_beginBlock_35 (by decide) (fun _ => ?_) (fun c9 => absurd (by decide) c9)
          refine lv_aload_n hx hb dX1_beginBlock_47 rfl (lv_at hl 1 rfl) ?_
          refine lv_bipush (v := nI 40) hx hb dX1_beginBlock_48 (by decide) ?_
          refine cXv (As := [.int (nI 40)]) (rest := []) (S := oS × oS) (wa := rv G h q11 w) (w1 := fun v => rv G h v.1 v.2) ⟨hx, hb, hml, hown, hts⟩ (mt_X1_expect1 l G h _ q11 w len (nE tx len ((pa.1 12) + 1)) f11 tx (nI 40) ((hR11.1 1 (by decide)).trans (e1)) (hb11) (e411) (by first | assumption | omega) (by first | assumption | omega) (htx11) (by first | assumption | omega) (by first | assumption | omega) (by decide)) (cwV 1 hts gX1_beginBlock_X1_expect rfl rfl rfl ⟨rfl, hd_X1_expect⟩ ⟨Nat.le_of_ble_eq_true rfl, Nat.le_of_ble_eq_true rfl⟩) hK hN hP hD hS hA (fun _ => rfl) 0 1 rfl rfl rfl hl.1 rfl (Nat.le_of_ble_eq_true rfl) ⟨Nat.zero_le _, Nat.zero_le _⟩ dX1_beginBlock_50 (fun u50 H locs hw50 hP hD hS => ?_)
          obtain rfl := hw50
          have hP : PP G (rv G h (oI q11 2 (nI (sk tx len (nE tx len ((pa.1 12) + 1))))) w) H := hP
          have hD : va_D A (rv G h (oI q11 2 (nI (sk tx len (nE tx len ((pa.1 12) + 1))))) w) := hD
          have hge50 : (nE tx len ((pa.1 12) + 1)) ≤ sk tx len (nE tx len ((pa.1 12) + 1)) := rn_ge _
          have hle50 : sk tx len (nE tx len ((pa.1 12) + 1)) ≤ len := rn_le (by omega)
          refine lv_aload_n hx hb dX1_beginBlock_53 rfl (lv_at hl 1 rfl) ?_
          refine va_get (D := gD G) (ci := 1) (v := .int (q11.1 4)) (C := RX1) (T := TX1) (N := 10) hx hb hts hiX1 hown hK hP 0 rfl rfl 4 (by decide) k25 (fun _ h9 => h9) rfl dX1_beginBlock_54 ?_
          refine topE e411 ?_
          refine lv_if_ne (tgt := 99) hx hb dX1_beginBlock_57 (by decide) (fun c57 => ?_) (fun c57 => ?_)
          · skip
            have n57 : ¬ (f11 = 0) := fun q9 => c57 ((nI_eq (a := f11) (b := 0) (by omega) (by omega)).mpr q9)
            exact W.vret hx hb hr (fun t ht hW => ⟨⟨(oI q11 2 (nI (sk tx len (nE tx len ((pa.1 12) + 1)))), w), rfl, Or.inr ⟨_, _, f11, (sk tx len (pa.1 12 + 1)), pa, rfl, by repeat (first | exact rel.refl _ | exact rel.mono (by assumption) (by decide) (by decide) | refine rel.I (by decide) ?_ | refine rel.A (by decide) ?_ | refine rel.trans ?_ (rel.mono (by assumption) (by decide) (by decide))), (bST_n (by omega)).trans (by rw [hf11]), by omega, by omega, e411, e511, ⟨sk tx len (nE tx len ((pa.1 12) + 1)), pa.1 23, pa.1 15, pa.1 19, rfl, by omega, (hR11.1 8 (by decide)).trans (e8), by omega, e0, by omega, e5, by omega⟩⟩, show PP G (rv G h (oI q11 2 (nI (sk tx len (nE tx len ((pa.1 12) + 1))))) w) t.heap by rw [ht]; exact hP⟩, hS.F ht⟩) hS.2.2 dX1_beginBlock_99
          · skip
            have n57 : f11 = 0 := (nI_eq (a := f11) (b := 0) (by omega) (by omega)).mp c57
            omega
set_option maxHeartbeats 1000000 in
set_option maxRecDepth 100000 in
theorem mt_X1_readOneLine (l : Launch) (G : gG) (h : Nat → Nat) (sz : Nat) (rd : oS) (w : oS) (tx : Nat → Int32) (len : Nat) (pa : pS) (x : Int32) (hs : RSc rd w len pa) (htx : rwE (rd.2 0) tx len) (h40 : rd.1 4 = nI 0) (hAl : pa.1 12 < len) (hPb : PIb (pa.2 24) (pa.2 25) (pa.1 23)) (hd48 : pa.1 23 ≤ 48) (hbn : ¬ (brA (pa.2 24) (pa.2 25) (pa.1 23)) = -1) : Met l yX1_readOneLine wsX1_readOneLine ({ frames := 3, cells := 0, slots := 0, locals := 73 }) (preW G (rv G h rd w) sz [.ref (h 0), .int x]) (va_Qv (fun (v : oS × oS) => (∃ q p s2, v = (q, p) ∧ rel [2, 3, 8] [6, 7] rd q ∧ lST x pa = (0, 0, s2) ∧ RSc q p len s2 ∧ pa.1 12 < s2.1 12 ∧ PIb (s2.2 24) (s2.2 25) (s2.1 23) ∧ s2.1 23 ≤ 48) ∨ (∃ q p f pl s2, v = (q, p) ∧ rel [2, 3, 4, 5, 8] [6, 7] rd q ∧ lST x pa = (f, pl, s2) ∧ 0 < f ∧ f ≤ 4 ∧ q.1 4 = nI f ∧ q.1 5 = nI pl ∧ ∃ b d n m, q.1 2 = nI b ∧ b ≤ len ∧ q.1 8 = nI d ∧ d ≤ 48 ∧ p.1 0 = nI n ∧ n ≤ 24 ∧ p.1 5 = nI m ∧ m ≤ 120)) (fun v t => PP G (rv G h v.1 v.2) t.heap) (va_A (rv G h rd w) sz)) 0 0 (va_A (rv G h rd w) sz) := by
  refine Met.ofW (cc := cX1_readOneLine) (maxL := 4) (ret := none) (by decide) rfl ?_
  intro p e s m args below meth c s₁ B hml hv
  obtain ⟨ha, hsz, hP, hK, hN, hD0⟩ := hv
  subst ha
  have hx := B.exec
  have hb := B.bytes
  have hr := B.returns
  have hts := atoms_spec (ws := wsX1_readOneLine) B.pre
  have hown : s.vm.findClass RX1 = some m.cls := findClass_of_methodNamed B.named
  have hlocks := B.notSynchronized
  subst hsz
  have hD := hD0.self (sz := s.heap.size)
  generalize hAe : va_A (rv G h rd w) s.heap.size = A at hD ⊢
  have hA : ∀ q : Nat, s.heap.size ≤ q → A q := fun q h => by rw [← hAe]; exact Or.inr h
  clear hAe hD0
  have hS : va_S A s.heap s.heap [] := va_S.rf
  have hiX1 : ∀ w ∈ wsX10, w ∈ wsX1_readOneLine := fun w h9 => List.mem_cons_of_mem _ (List.mem_append_left _ (List.mem_append_right _ (h9)))
  have k44 := hts (.fieldLink RX1 44 "WovenHistory$Reader" "woven" "LWovenHistory$Weave;") (List.mem_of_getElem? (i := 1) rfl)
  have hiX3 : ∀ w ∈ wsX30, w ∈ wsX1_readOneLine := fun w h9 => List.mem_cons_of_mem _ (List.mem_append_right _ (h9))
  have k123 : (Cond.fieldLinkNest "WovenHistory$Reader" 123 "WovenHistory$Weave" "lines" "I" "WovenHistory").before _ s = true := va_Nw.use (A := ([.ref (h 0), .int x] : List Value).toArray) rfl (hN.1 ("WovenHistory$Reader", 123, "WovenHistory$Weave", "lines", "I") (List.mem_of_getElem? (i := 14) rfl))
  have k19 := hts (.fieldLink RX1 19 "WovenHistory$Reader" "at" "I") (List.mem_of_getElem? (i := 2) rfl)
  have hl := lv_entry ([.ref (h 0), .int x]) (n := 4) (Nat.le_of_ble_eq_true rfl)
  rw [lg_entry_eq]
  generalize (lg_sl ([.ref (h 0), .int x]) ++ List.replicate (4 - (lg_sl ([.ref (h 0), .int x])).length) Slot.unset).toArray = ls at hl ⊢
  have hl : lv_has ls 4 [(0, .ref (h 0)), (1, .int x)] := hl
  obtain ⟨e1, e2, e8, e0, e5, ⟨q240, qa, qv, ql, qd, qpar⟩, hrw⟩ := id hs
  obtain ⟨b9, hb9, eb9⟩ := brA_24 hPb hbn
  have hb0 : ¬ (brA (pa.2 24) (pa.2 25) (pa.1 23)) < 0 := by rw [eb9]; exact nI_pos (by omega)
  refine lv_aload_n hx hb dX1_readOneLine_0 rfl (lv_at hl 0 rfl) ?_
  refine cRi (w := rv G h rd w) (As := []) (rest := []) ⟨hx, hb, hml, hown, hts⟩ (mt_X1_bringerAround l G h rd w (pa.1 23) (pa.2 24) (pa.2 25) (e8) (by first | assumption | omega) (hrw.2.2.2.2.2.2.1) (hrw.2.2.2.2.2.2.2.1)) (cwV 0 hts gX1_readOneLine_X1_bringerAround rfl rfl rfl ⟨rfl, hd_X1_bringerAround⟩ ⟨Nat.le_of_ble_eq_true rfl, Nat.le_of_ble_eq_true rfl⟩) hK hN hP 0 1 rfl rfl rfl hl.1 rfl (Nat.le_of_ble_eq_true rfl) ⟨Nat.zero_le _, Nat.zero_le _⟩ dX1_readOneLine_1 (fun r1 hw1 => ?_)
  obtain rfl := hw1
  refine lv_istore_n (lv' := [(2, .int (brA (pa.2 24) (pa.2 25) (pa.1 23))), (0, .ref (h 0)), (1, .int x)]) hx hb dX1_readOneLine_4 rfl hl (by decide) rfl (fun ls hl => ?_)
  refine lv_aload_n hx hb dX1_readOneLine_5 rfl (lv_at hl 1 rfl) ?_
  refine cRi (w := rv G h rd w) (As := []) (rest := []) ⟨hx, hb, hml, hown, hts⟩ (mt_X1_takersAround l G h rd w (pa.1 23) (pa.2 24) (pa.2 25) (e8) (by first | assumption | omega) (hrw.2.2.2.2.2.2.1) (hrw.2.2.2.2.2.2.2.1) (by first | assumption | omega)) (cwV 0 hts gX1_readOneLine_X1_takersAround rfl rfl rfl ⟨rfl, hd_X1_takersAround⟩ ⟨Nat.le_of_ble_eq_true rfl, Nat.le_of_ble_eq_true rfl⟩) hK hN hP 0 1 rfl rfl rfl hl.1 rfl (Nat.le_of_ble_eq_true rfl) ⟨Nat.zero_le _, Nat.zero_le _⟩ dX1_readOneLine_6 (fun r6 hw6 => ?_)
  obtain rfl := hw6
  refine lv_istore_n (lv' := [(3, .int (tkA (pa.2 24) (pa.2 25) (pa.1 23))), (2, .int (brA (pa.2 24) (pa.2 25) (pa.1 23))), (0, .ref (h 0)), (1, .int x)]) hx hb dX1_readOneLine_9 rfl hl (by decide) rfl (fun ls hl => ?_)
  refine lv_aload_n hx hb dX1_readOneLine_10 rfl (lv_at hl 2 rfl) ?_
  refine va_get (D := gD G) (ci := 1) (v := .ref (h 10)) (C := RX1) (T := TX1) (N := 10) hx hb hts hiX1 hown hK hP 0 rfl rfl 9 (by decide) k44 (fun _ h9 => h9) rfl dX1_readOneLine_11 ?_
  refine va_getN (D := gD G) (ci := 3) (v := .int (w.1 5)) (C := RX3) (T := TX3) (N := 9) hx hb hts hiX3 hown hK hP 4 rfl rfl 5 (by decide) k123 (fun _ h9 => h9) rfl dX1_readOneLine_14 ?_
  refine topE e5 ?_
  refine lv_bipush (v := nI 120) hx hb dX1_readOneLine_17 (by decide) ?_
  refine lv_icmp_lt (tgt := 34) hx hb dX1_readOneLine_19 (by decide) (fun c19 => ?_) (fun c19 => ?_)
  · skip
    have n19 : (pa.1 19) < 120 := (nI_ltI (a := pa.1 19) (b := 120) (by omega) (by omega)).mp c19
    refine lv_iload_n hx hb dX1_readOneLine_34 rfl (lv_at hl 0 rfl) ?_
    refine lv_iload_n hx hb dX1_readOneLine_35 rfl (lv_at hl 1 rfl) ?_
    refine cSi (As := [.int (brA (pa.2 24) (pa.2 25) (pa.1 23))]) (rest := [.int (tkA (pa.2 24) (pa.2 25) (pa.1 23))]) ⟨hx, hb, hml, hown, hts⟩ (mt_X1_upTo l (brA (pa.2 24) (pa.2 25) (pa.1 23))) (va_cwS 1 hts gX1_readOneLine_X1_upTo rfl rfl rfl hd_X1_upTo ⟨Nat.le_of_ble_eq_true rfl, Nat.le_of_ble_eq_true rfl⟩) rfl hl.1 rfl (Nat.le_of_ble_eq_true rfl) ⟨Nat.zero_le _, Nat.zero_le _⟩ dX1_readOneLine_36 (fun r36 hw36 => ?_)
    obtain rfl := hw36
    refine topE (show ((onl (brA (pa.2 24) (pa.2 25) (pa.1 23))) <<< ((1 : Int32) &&& 31)) - (1 : Int32) = ((2 : Int32) <<< ((brA (pa.2 24) (pa.2 25) (pa.1 23)) &&& 31)) - 1 from by rw [eb9, onl_n hb9]; exact upTo_eq b9 hb9) ?_
    refine lv_iand hx hb dX1_readOneLine_39 ?_
    refine lv_if_eq (tgt := 55) hx hb dX1_readOneLine_40 (by decide) (fun c40 => ?_) (fun c40 => ?_)
    · skip
      refine lv_aload_n hx hb dX1_readOneLine_55 rfl (lv_at hl 2 rfl) ?_
      refine va_get (D := gD G) (ci := 1) (v := .ref (h 10)) (C := RX1) (T := TX1) (N := 10) hx hb hts hiX1 hown hK hP 0 rfl rfl 9 (by decide) k44 (fun _ h9 => h9) rfl dX1_readOneLine_56 ?_
      refine lv_aload_n hx hb dX1_readOneLine_59 rfl (lv_at hl 2 rfl) ?_
      refine va_get (D := gD G) (ci := 1) (v := .ref (h 10)) (C := RX1) (T := TX1) (N := 10) hx hb hts hiX1 hown hK hP 0 rfl rfl 9 (by decide) k44 (fun _ h9 => h9) rfl dX1_readOneLine_60 ?_
      refine va_getN (D := gD G) (ci := 3) (v := .int (w.1 5)) (C := RX3) (T := TX3) (N := 9) hx hb hts hiX3 hown hK hP 4 rfl rfl 5 (by decide) k123 (fun _ h9 => h9) rfl dX1_readOneLine_63 ?_
      refine topE e5 ?_
      refine lv_iload_n hx hb dX1_readOneLine_66 rfl (lv_at hl 3 rfl) ?_
      refine lv_iload_n hx hb dX1_readOneLine_67 rfl (lv_at hl 1 rfl) ?_
      refine lv_iload_n hx hb dX1_readOneLine_68 rfl (lv_at hl 0 rfl) ?_
      refine cWv (As := [.int (nI (pa.1 19)), .int x, .int (brA (pa.2 24) (pa.2 25) (pa.1 23)), .int (tkA (pa.2 24) (pa.2 25) (pa.1 23))]) (rest := []) (S := oS) (wa := rv G h rd w) (wc := wv G (fun k => h (10 + k)) w) (w1 := fun v => wv G (fun k => h (10 + k)) v) (wa' := fun v => rv G h rd v) ⟨hx, hb, hml, hown, hts⟩ (mt_X3_insertLineF l G (fun k => h (10 + k)) _ w (pa.1 19) (pa.1 19) x (brA (pa.2 24) (pa.2 25) (pa.1 23)) (tkA (pa.2 24) (pa.2 25) (pa.1 23)) (e5) (by first | assumption | omega) (by first | assumption | omega)) (cwV 4 hts gX1_readOneLine_X3_insertLine rfl rfl rfl ⟨rfl, hd_X3_insertLine⟩ ⟨Nat.le_of_ble_eq_true rfl, Nat.le_of_ble_eq_true rfl⟩) hK hN hP hD hS hA [4, 5, 6, 7, 8, 9, 10, 11] rfl (by decide) rfl (fun _ => rfl) (fun _ => rfl) (fun _ => rfl) 0 3 rfl rfl rfl hl.1 rfl (Nat.le_of_ble_eq_true rfl) ⟨Nat.zero_le _, Nat.zero_le _⟩ dX1_readOneLine_69 (fun u69 H locs hw69 hP hD hS => ?_)
      obtain rfl := hw69
      have hP : PP G (rv G h rd (insW w (pa.1 19) (pa.1 19) x (brA (pa.2 24) (pa.2 25) (pa.1 23)) (tkA (pa.2 24) (pa.2 25) (pa.1 23)))) H := hP
      have hD : va_D A (rv G h rd (insW w (pa.1 19) (pa.1 19) x (brA (pa.2 24) (pa.2 25) (pa.1 23)) (tkA (pa.2 24) (pa.2 25) (pa.1 23)))) := hD
      refine lv_aload_n hx hb dX1_readOneLine_72 rfl (lv_at hl 2 rfl) ?_
      refine lv_dup hx hb dX1_readOneLine_73 rfl ?_
      refine va_get (D := gD G) (ci := 1) (v := .int (rd.1 2)) (C := RX1) (T := TX1) (N := 10) hx hb hts hiX1 hown hK hP 0 rfl rfl 2 (by decide) k19 (fun _ h9 => h9) rfl dX1_readOneLine_74 ?_
      refine topE e2 ?_
      refine lv_iconst (v := nI 1) hx hb dX1_readOneLine_77 (by decide) ?_
      refine lv_iadd hx hb dX1_readOneLine_78 ?_
      refine topE (y := nI ((pa.1 12) + 1)) (nI_add (pa.1 12) 1) ?_
      refine va_put (D := gD G) (ci := 1) (v := .int (nI ((pa.1 12) + 1))) (ty := .int) (C := RX1) (T := TX1) (N := 10) hx hb hts hiX1 tyX1 tyX1_ok nmX1 hown hK hP hD hS 0 rfl rfl 2 (by decide) k19 (fun _ h9 => h9) rfl (tyX1_ok 2 (by decide)) (rfl) (rfl) (Nat.le_of_ble_eq_true rfl) dX1_readOneLine_79 (fun H locs hP hD hS => ?_)
      have hP : PP G (rv G h (oI rd 2 (nI ((pa.1 12) + 1))) (insW w (pa.1 19) (pa.1 19) x (brA (pa.2 24) (pa.2 25) (pa.1 23)) (tkA (pa.2 24) (pa.2 25) (pa.1 23)))) H := hP
      have hD : va_D A (rv G h (oI rd 2 (nI ((pa.1 12) + 1))) (insW w (pa.1 19) (pa.1 19) x (brA (pa.2 24) (pa.2 25) (pa.1 23)) (tkA (pa.2 24) (pa.2 25) (pa.1 23)))) := hD
      exact W.vret hx hb hr (fun t ht hW => ⟨⟨(oI rd 2 (nI ((pa.1 12) + 1)), insW w (pa.1 19) (pa.1 19) x (brA (pa.2 24) (pa.2 25) (pa.1 23)) (tkA (pa.2 24) (pa.2 25) (pa.1 23))), rfl, by
                                        have HQ : lST x pa = (0, 0, lOK x pa (brA (pa.2 24) (pa.2 25) (pa.1 23)) (tkA (pa.2 24) (pa.2 25) (pa.1 23))) := by unfold lST; exact lSa_0 hb0 (by omega) c40
                                        exact Or.inl ⟨_, _, lOK x pa (brA (pa.2 24) (pa.2 25) (pa.1 23)) (tkA (pa.2 24) (pa.2 25) (pa.1 23)), rfl, by repeat (first | exact rel.refl _ | exact rel.mono (by assumption) (by decide) (by decide) | refine rel.I (by decide) ?_ | refine rel.A (by decide) ?_ | refine rel.trans ?_ (rel.mono (by assumption) (by decide) (by decide))), HQ, ⟨e1, rfl, e8, e0, rfl, ⟨q240, (show (pa.1 12) + 1 ≤ len by omega), (show pa.1 15 ≤ 24 by omega), (show (pa.1 19) + 1 ≤ 120 by omega), (show pa.1 23 ≤ (pa.1 12) + 1 by omega), qpar⟩, RwC_l hrw rfl rfl⟩, (show pa.1 12 < (pa.1 12) + 1 by omega), hPb, (show pa.1 23 ≤ 48 by omega)⟩, show PP G (rv G h (oI rd 2 (nI ((pa.1 12) + 1))) (insW w (pa.1 19) (pa.1 19) x (brA (pa.2 24) (pa.2 25) (pa.1 23)) (tkA (pa.2 24) (pa.2 25) (pa.1 23)))) t.heap by rw [ht]; exact hP⟩, hS.F ht⟩) hS.2.2 dX1_readOneLine_82
    · skip
      refine lv_aload_n hx hb dX1_readOneLine_43 rfl (lv_at hl 2 rfl) ?_
      refine lv_iconst (v := nI 4) hx hb dX1_readOneLine_44 (by decide) ?_
      refine lv_aload_n hx hb dX1_readOneLine_45 rfl (lv_at hl 2 rfl) ?_
      refine va_get (D := gD G) (ci := 1) (v := .int (rd.1 2)) (C := RX1) (T := TX1) (N := 10) hx hb hts hiX1 hown hK hP 0 rfl rfl 2 (by decide) k19 (fun _ h9 => h9) rfl dX1_readOneLine_46 ?_
      refine topE e2 ?_
      refine cXv (As := [.int (nI 4), .int (nI (pa.1 12))]) (rest := []) (S := oS × oS) (wa := rv G h rd w) (w1 := fun v => rv G h v.1 v.2) ⟨hx, hb, hml, hown, hts⟩ (mt_X1_fail0 l G h _ rd w (nI 4) (nI (pa.1 12)) (h40)) (cwV 2 hts gX1_readOneLine_X1_fail rfl rfl rfl ⟨rfl, hd_X1_fail⟩ ⟨Nat.le_of_ble_eq_true rfl, Nat.le_of_ble_eq_true rfl⟩) hK hN hP hD hS hA (fun _ => rfl) 0 1 rfl rfl rfl hl.1 rfl (Nat.le_of_ble_eq_true rfl) ⟨Nat.zero_le _, Nat.zero_le _⟩ dX1_readOneLine_49 (fun u49 H locs hw49 hP hD hS => ?_)
      obtain rfl := hw49
      have hP : PP G (rv G h (oI (oI rd 4 (nI 4)) 5 (nI (pa.1 12))) w) H := hP
      have hD : va_D A (rv G h (oI (oI rd 4 (nI 4)) 5 (nI (pa.1 12))) w) := hD
      refine lv_goto (tgt := 82) hx hb dX1_readOneLine_52 (by decide) ?_
      exact W.vret hx hb hr (fun t ht hW => ⟨⟨(oI (oI rd 4 (nI 4)) 5 (nI (pa.1 12)), w), rfl, Or.inr ⟨_, _, 4, (pa.1 12), pa, rfl, by repeat (first | exact rel.refl _ | exact rel.mono (by assumption) (by decide) (by decide) | refine rel.I (by decide) ?_ | refine rel.A (by decide) ?_ | refine rel.trans ?_ (rel.mono (by assumption) (by decide) (by decide))), by unfold lST; exact lSa_4 hb0 (by omega) c40, by omega, by omega, rfl, rfl, ⟨pa.1 12, pa.1 23, pa.1 15, pa.1 19, e2, by omega, e8, by omega, e0, by omega, e5, by omega⟩⟩, show PP G (rv G h (oI (oI rd 4 (nI 4)) 5 (nI (pa.1 12))) w) t.heap by rw [ht]; exact hP⟩, hS.F ht⟩) hS.2.2 dX1_readOneLine_82
  · skip
    have n19 : ¬ ((pa.1 19) < 120) := fun q9 => c19 ((nI_ltI (a := pa.1 19) (b := 120) (by omega) (by omega)).mpr q9)
    refine lv_aload_n hx hb dX1_readOneLine_22 rfl (lv_at hl 2 rfl) ?_
    refine lv_iconst (v := nI 3) hx hb dX1_readOneLine_23 (by decide) ?_
    refine lv_aload_n hx hb dX1_readOneLine_24 rfl (lv_at hl 2 rfl) ?_
    refine va_get (D := gD G) (ci := 1) (v := .int (rd.1 2)) (C := RX1) (T := TX1) (N := 10) hx hb hts hiX1 hown hK hP 0 rfl rfl 2 (by decide) k19 (fun _ h9 => h9) rfl dX1_readOneLine_25 ?_
    refine topE e2 ?_
    refine cXv (As := [.int (nI 3), .int (nI (pa.1 12))]) (rest := []) (S := oS × oS) (wa := rv G h rd w) (w1 := fun v => rv G h v.1 v.2) ⟨hx, hb, hml, hown, hts⟩ (mt_X1_fail0 l G h _ rd w (nI 3) (nI (pa.1 12)) (h40)) (cwV 2 hts gX1_readOneLine_X1_fail rfl rfl rfl ⟨rfl, hd_X1_fail⟩ ⟨Nat.le_of_ble_eq_true rfl, Nat.le_of_ble_eq_true rfl⟩) hK hN hP hD hS hA (fun _ => rfl) 0 1 rfl rfl rfl hl.1 rfl (Nat.le_of_ble_eq_true rfl) ⟨Nat.zero_le _, Nat.zero_le _⟩ dX1_readOneLine_28 (fun u28 H locs hw28 hP hD hS => ?_)
    obtain rfl := hw28
    have hP : PP G (rv G h (oI (oI rd 4 (nI 3)) 5 (nI (pa.1 12))) w) H := hP
    have hD : va_D A (rv G h (oI (oI rd 4 (nI 3)) 5 (nI (pa.1 12))) w) := hD
    refine lv_goto (tgt := 82) hx hb dX1_readOneLine_31 (by decide) ?_
    exact W.vret hx hb hr (fun t ht hW => ⟨⟨(oI (oI rd 4 (nI 3)) 5 (nI (pa.1 12)), w), rfl, Or.inr ⟨_, _, 3, (pa.1 12), pa, rfl, by repeat (first | exact rel.refl _ | exact rel.mono (by assumption) (by decide) (by decide) | refine rel.I (by decide) ?_ | refine rel.A (by decide) ?_ | refine rel.trans ?_ (rel.mono (by assumption) (by decide) (by decide))), by unfold lST; exact lSa_3 hb0 (by omega), by omega, by omega, rfl, rfl, ⟨pa.1 12, pa.1 23, pa.1 15, pa.1 19, e2, by omega, e8, by omega, e0, by omega, e5, by omega⟩⟩, show PP G (rv G h (oI (oI rd 4 (nI 3)) 5 (nI (pa.1 12))) w) t.heap by rw [ht]; exact hP⟩, hS.F ht⟩) hS.2.2 dX1_readOneLine_82
set_option maxHeartbeats 1000000 in
set_option maxRecDepth 100000 in
theorem mt_X1_readItem (l : Launch) (G : gG) (h : Nat → Nat) (sz : Nat) (rd : oS) (w : oS) (tx : Nat → Int32) (len : Nat) (pa : pS) (x : Int32) (hs : RSc rd w len pa) (htx : rwE (rd.2 0) tx len) (h40 : rd.1 4 = nI 0) (hAl : pa.1 12 < len) (hPb : PIb (pa.2 24) (pa.2 25) (pa.1 23)) (hd48 : pa.1 23 ≤ 48) (hxq : x = hd tx len (pa.1 12)) : Met l yX1_readItem wsX1_readItem ({ frames := 4, cells := 0, slots := 0, locals := 96 }) (preW G (rv G h rd w) sz [.ref (h 0), .int x]) (va_Qv (fun (v : oS × oS) => (∃ q p s2, v = (q, p) ∧ rel [2, 3, 8] [6, 7] rd q ∧ iST tx len false pa = (0, 0, s2) ∧ RSc q p len s2 ∧ pa.1 12 < s2.1 12 ∧ PIb (s2.2 24) (s2.2 25) (s2.1 23) ∧ s2.1 23 ≤ 48) ∨ (∃ q p f pl s2, v = (q, p) ∧ rel [2, 3, 4, 5, 8] [6, 7] rd q ∧ iST tx len false pa = (f, pl, s2) ∧ 0 < f ∧ f ≤ 4 ∧ q.1 4 = nI f ∧ q.1 5 = nI pl ∧ ∃ b d n m, q.1 2 = nI b ∧ b ≤ len ∧ q.1 8 = nI d ∧ d ≤ 48 ∧ p.1 0 = nI n ∧ n ≤ 24 ∧ p.1 5 = nI m ∧ m ≤ 120)) (fun v t => PP G (rv G h v.1 v.2) t.heap) (va_A (rv G h rd w) sz)) 0 0 (va_A (rv G h rd w) sz) := by
  refine Met.ofW (cc := cX1_readItem) (maxL := 2) (ret := none) (by decide) rfl ?_
  intro p e s m args below meth c s₁ B hml hv
  obtain ⟨ha, hsz, hP, hK, hN, hD0⟩ := hv
  subst ha
  have hx := B.exec
  have hb := B.bytes
  have hr := B.returns
  have hts := atoms_spec (ws := wsX1_readItem) B.pre
  have hown : s.vm.findClass RX1 = some m.cls := findClass_of_methodNamed B.named
  have hlocks := B.notSynchronized
  subst hsz
  have hD := hD0.self (sz := s.heap.size)
  generalize hAe : va_A (rv G h rd w) s.heap.size = A at hD ⊢
  have hA : ∀ q : Nat, s.heap.size ≤ q → A q := fun q h => by rw [← hAe]; exact Or.inr h
  clear hAe hD0
  have hS : va_S A s.heap s.heap [] := va_S.rf
  have hiX1 : ∀ w ∈ wsX10, w ∈ wsX1_readItem := fun w h9 => List.mem_cons_of_mem _ (List.mem_append_left _ (List.mem_append_right _ (h9)))
  have k38 := hts (.fieldLink RX1 38 "WovenHistory$Reader" "depth" "I") (List.mem_of_getElem? (i := 1) rfl)
  have k19 := hts (.fieldLink RX1 19 "WovenHistory$Reader" "at" "I") (List.mem_of_getElem? (i := 2) rfl)
  have hl := lv_entry ([.ref (h 0), .int x]) (n := 2) (Nat.le_of_ble_eq_true rfl)
  rw [lg_entry_eq]
  generalize (lg_sl ([.ref (h 0), .int x]) ++ List.replicate (2 - (lg_sl ([.ref (h 0), .int x])).length) Slot.unset).toArray = ls at hl ⊢
  have hl : lv_has ls 2 [(0, .ref (h 0)), (1, .int x)] := hl
  obtain ⟨e1, e2, e8, e0, e5, ⟨q240, qa, qv, ql, qd, qpar⟩, hrw⟩ := id hs
  refine lv_iload_n hx hb dX1_readItem_0 rfl (lv_at hl 1 rfl) ?_
  refine lv_bipush (v := nI 105) hx hb dX1_readItem_1 (by decide) ?_
  refine lv_icmp_eq (tgt := 12) hx hb dX1_readItem_3 (by decide) (fun c3 => ?_) (fun c3 => ?_)
  · skip
    refine lv_aload_n hx hb dX1_readItem_12 rfl (lv_at hl 0 rfl) ?_
    refine lv_iload_n hx hb dX1_readItem_13 rfl (lv_at hl 1 rfl) ?_
    refine lv_bipush (v := nI 105) hx hb dX1_readItem_14 (by decide) ?_
    refine lv_icmp_ne (tgt := 23) hx hb dX1_readItem_16 (by decide) (fun c16 => ?_) (fun c16 => ?_)
    · skip
      exact absurd c3 c16
    · skip
      refine lv_iconst (v := nI 1) hx hb dX1_readItem_19 (by decide) ?_
      refine lv_goto (tgt := 24) hx hb dX1_readItem_20 (by decide) ?_
      refine cXv (As := [.int (nI 1)]) (rest := []) (S := oS × oS) (wa := rv G h rd w) (w1 := fun v => rv G h v.1 v.2) ⟨hx, hb, hml, hown, hts⟩ (mt_X1_beginBlock l G h _ rd w tx len pa (nI 1) (hs) (htx) (h40) (by first | assumption | omega) (by first | assumption | omega) (by first | assumption | omega) (by decide)) (cwV 1 hts gX1_readItem_X1_beginBlock rfl rfl rfl ⟨rfl, hd_X1_beginBlock⟩ ⟨Nat.le_of_ble_eq_true rfl, Nat.le_of_ble_eq_true rfl⟩) hK hN hP hD hS hA (fun _ => rfl) 0 1 rfl rfl rfl hl.1 rfl (Nat.le_of_ble_eq_true rfl) ⟨Nat.zero_le _, Nat.zero_le _⟩ dX1_readItem_24 (fun u24 H locs hw24 hP hD hS => ?_)
      rcases hw24 with ⟨q24, p24, s24, rfl, hR24, hQ24, hS24, ha24, hPb24, hd24⟩ | ⟨q24, p24, f24, pl24, s24, rfl, hR24, hQ24, hp24, hg24, e424, e524, b24, d24, m24, k24, ebb24, hbb24, edd24, hdd24, enn24, hnn24, emm24, hmm24⟩
      · skip
        have hP : PP G (rv G h q24 p24) H := hP
        have hD : va_D A (rv G h q24 p24) := hD
        have htx24 : rwE (q24.2 0) tx len := by rw [hR24.2 0 (by decide)]; exact (htx)
        refine lv_goto (tgt := 98) hx hb dX1_readItem_27 (by decide) ?_
        exact W.vret hx hb hr (fun t ht hW => ⟨⟨(q24, p24), rfl, Or.inl ⟨_, _, s24, rfl, by repeat (first | exact rel.refl _ | exact rel.mono (by assumption) (by decide) (by decide) | refine rel.I (by decide) ?_ | refine rel.A (by decide) ?_ | refine rel.trans ?_ (rel.mono (by assumption) (by decide) (by decide))), (iST_i (hxq.symm.trans c3)).trans hQ24, hS24, ha24, hPb24, hd24⟩, show PP G (rv G h q24 p24) t.heap by rw [ht]; exact hP⟩, hS.F ht⟩) hS.2.2 dX1_readItem_98
      · skip
        have hP : PP G (rv G h q24 p24) H := hP
        have hD : va_D A (rv G h q24 p24) := hD
        have htx24 : rwE (q24.2 0) tx len := by rw [hR24.2 0 (by decide)]; exact (htx)
        refine lv_goto (tgt := 98) hx hb dX1_readItem_27 (by decide) ?_
        exact W.vret hx hb hr (fun t ht hW => ⟨⟨(q24, p24), rfl, Or.inr ⟨_, _, f24, pl24, s24, rfl, by repeat (first | exact rel.refl _ | exact rel.mono (by assumption) (by decide) (by decide) | refine rel.I (by decide) ?_ | refine rel.A (by decide) ?_ | refine rel.trans ?_ (rel.mono (by assumption) (by decide) (by decide))), (iST_i (hxq.symm.trans c3)).trans hQ24, hp24, hg24, e424, e524, b24, d24, m24, k24, ebb24, hbb24, edd24, hdd24, enn24, hnn24, emm24, hmm24⟩, show PP G (rv G h q24 p24) t.heap by rw [ht]; exact hP⟩, hS.F ht⟩) hS.2.2 dX1_readItem_98
  · skip
    refine lv_iload_n hx hb dX1_readItem_6 rfl (lv_at hl 1 rfl) ?_
    refine lv_bipush (v := nI 100) hx hb dX1_readItem_7 (by decide) ?_
    refine lv_icmp_ne (tgt := 30) hx hb dX1_readItem_9 (by decide) (fun c9 => ?_) (fun c9 => ?_)
    · skip
      refine lv_iload_n hx hb dX1_readItem_30 rfl (lv_at hl 1 rfl) ?_
      refine lv_bipush (v := nI 41) hx hb dX1_readItem_31 (by decide) ?_
      refine lv_icmp_ne (tgt := 66) hx hb dX1_readItem_33 (by decide) (fun c33 => ?_) (fun c33 => ?_)
      · skip
        refine lv_iload_n hx hb dX1_readItem_66 rfl (lv_at hl 1 rfl) ?_
        refine cSNi (As := [.int x]) (rest := []) ⟨hx, hb, hml, hown, hts⟩ (mt_X4_isSignF l x) ⟨va_cnB 1 hts ggX1_readItem_X4_isSign rfl rfl rfl hN.2 (hts (.initialized RX4) (List.mem_of_getElem? (i := 61) rfl)) hd_X4_isSign ⟨Nat.le_of_ble_eq_true rfl, Nat.le_of_ble_eq_true rfl⟩, hts (.static yX4_isSign) (List.mem_of_getElem? (i := 60) rfl), trivial⟩ rfl hl.1 rfl (Nat.le_of_ble_eq_true rfl) ⟨Nat.zero_le _, Nat.zero_le _⟩ dX1_readItem_67 (fun r67 hw67 => ?_)
        rcases hw67 with ⟨rfl, hy67⟩ | ⟨rfl, hn67⟩
        · skip
          refine lv_if_eq (tgt := 89) hx hb dX1_readItem_70 (by decide) (fun c9 => absurd c9 (by decide)) (fun _ => ?_)
          refine lv_aload_n hx hb dX1_readItem_73 rfl (lv_at hl 0 rfl) ?_
          refine cRi (w := rv G h rd w) (As := []) (rest := []) ⟨hx, hb, hml, hown, hts⟩ (mt_X1_bringerAround l G h rd w (pa.1 23) (pa.2 24) (pa.2 25) (e8) (by first | assumption | omega) (hrw.2.2.2.2.2.2.1) (hrw.2.2.2.2.2.2.2.1)) (cwV 0 hts gX1_readItem_X1_bringerAround rfl rfl rfl ⟨rfl, hd_X1_bringerAround⟩ ⟨Nat.le_of_ble_eq_true rfl, Nat.le_of_ble_eq_true rfl⟩) hK hN hP 0 1 rfl rfl rfl hl.1 rfl (Nat.le_of_ble_eq_true rfl) ⟨Nat.zero_le _, Nat.zero_le _⟩ dX1_readItem_74 (fun r74 hw74 => ?_)
          obtain rfl := hw74
          refine lv_iconst (v := (-1 : Int32)) hx hb dX1_readItem_77 (by decide) ?_
          refine lv_icmp_eq (tgt := 89) hx hb dX1_readItem_78 (by decide) (fun c78 => ?_) (fun c78 => ?_)
          · skip
            refine lv_aload_n hx hb dX1_readItem_89 rfl (lv_at hl 0 rfl) ?_
            refine lv_iconst (v := nI 1) hx hb dX1_readItem_90 (by decide) ?_
            refine lv_aload_n hx hb dX1_readItem_91 rfl (lv_at hl 0 rfl) ?_
            refine va_get (D := gD G) (ci := 1) (v := .int (rd.1 2)) (C := RX1) (T := TX1) (N := 10) hx hb hts hiX1 hown hK hP 0 rfl rfl 2 (by decide) k19 (fun _ h9 => h9) rfl dX1_readItem_92 ?_
            refine topE e2 ?_
            refine cXv (As := [.int (nI 1), .int (nI (pa.1 12))]) (rest := []) (S := oS × oS) (wa := rv G h rd w) (w1 := fun v => rv G h v.1 v.2) ⟨hx, hb, hml, hown, hts⟩ (mt_X1_fail0 l G h _ rd w (nI 1) (nI (pa.1 12)) (h40)) (cwV 2 hts gX1_readItem_X1_fail rfl rfl rfl ⟨rfl, hd_X1_fail⟩ ⟨Nat.le_of_ble_eq_true rfl, Nat.le_of_ble_eq_true rfl⟩) hK hN hP hD hS hA (fun _ => rfl) 0 1 rfl rfl rfl hl.1 rfl (Nat.le_of_ble_eq_true rfl) ⟨Nat.zero_le _, Nat.zero_le _⟩ dX1_readItem_95 (fun u95 H locs hw95 hP hD hS => ?_)
            obtain rfl := hw95
            have hP : PP G (rv G h (oI (oI rd 4 (nI 1)) 5 (nI (pa.1 12))) w) H := hP
            have hD : va_D A (rv G h (oI (oI rd 4 (nI 1)) 5 (nI (pa.1 12))) w) := hD
            exact W.vret hx hb hr (fun t ht hW => ⟨⟨(oI (oI rd 4 (nI 1)) 5 (nI (pa.1 12)), w), rfl, Or.inr ⟨_, _, 1, (pa.1 12), pa, rfl, by repeat (first | exact rel.refl _ | exact rel.mono (by assumption) (by decide) (by decide) | refine rel.I (by decide) ?_ | refine rel.A (by decide) ?_ | refine rel.trans ?_ (rel.mono (by assumption) (by decide) (by decide))), (iST_l (fun q => absurd q.2 (by decide)) (by rw [← hxq]; exact c3) (by rw [← hxq]; exact c9) (by rw [← hxq]; exact hy67)).trans (by unfold lST; exact lSa_1 (by rw [c78]; decide)), by omega, by omega, rfl, rfl, ⟨pa.1 12, pa.1 23, pa.1 15, pa.1 19, e2, by omega, e8, by omega, e0, by omega, e5, by omega⟩⟩, show PP G (rv G h (oI (oI rd 4 (nI 1)) 5 (nI (pa.1 12))) w) t.heap by rw [ht]; exact hP⟩, hS.F ht⟩) hS.2.2 dX1_readItem_98
          · skip
            refine lv_aload_n hx hb dX1_readItem_81 rfl (lv_at hl 0 rfl) ?_
            refine lv_iload_n hx hb dX1_readItem_82 rfl (lv_at hl 1 rfl) ?_
            refine cXv (As := [.int x]) (rest := []) (S := oS × oS) (wa := rv G h rd w) (w1 := fun v => rv G h v.1 v.2) ⟨hx, hb, hml, hown, hts⟩ (mt_X1_readOneLine l G h _ rd w tx len pa x (hs) (htx) (h40) (by first | assumption | omega) (by first | assumption | omega) (by first | assumption | omega) (c78)) (cwV 1 hts gX1_readItem_X1_readOneLine rfl rfl rfl ⟨rfl, hd_X1_readOneLine⟩ ⟨Nat.le_of_ble_eq_true rfl, Nat.le_of_ble_eq_true rfl⟩) hK hN hP hD hS hA (fun _ => rfl) 0 1 rfl rfl rfl hl.1 rfl (Nat.le_of_ble_eq_true rfl) ⟨Nat.zero_le _, Nat.zero_le _⟩ dX1_readItem_83 (fun u83 H locs hw83 hP hD hS => ?_)
            rcases hw83 with ⟨q83, p83, s83, rfl, hR83, hQ83, hS83, ha83, hPb83, hd83⟩ | ⟨q83, p83, f83, pl83, s83, rfl, hR83, hQ83, hp83, hg83, e483, e583, b83, d83, m83, k83, ebb83, hbb83, edd83, hdd83, enn83, hnn83, emm83, hmm83⟩
            · skip
              have hP : PP G (rv G h q83 p83) H := hP
              have hD : va_D A (rv G h q83 p83) := hD
              have htx83 : rwE (q83.2 0) tx len := by rw [hR83.2 0 (by decide)]; exact (htx)
              refine lv_goto (tgt := 98) hx hb dX1_readItem_86 (by decide) ?_
              exact W.vret hx hb hr (fun t ht hW => ⟨⟨(q83, p83), rfl, Or.inl ⟨_, _, s83, rfl, by repeat (first | exact rel.refl _ | exact rel.mono (by assumption) (by decide) (by decide) | refine rel.I (by decide) ?_ | refine rel.A (by decide) ?_ | refine rel.trans ?_ (rel.mono (by assumption) (by decide) (by decide))), ((iST_l (fun q => absurd q.2 (by decide)) (by rw [← hxq]; exact c3) (by rw [← hxq]; exact c9) (by rw [← hxq]; exact hy67)).trans (by rw [← hxq])).trans hQ83, hS83, ha83, hPb83, hd83⟩, show PP G (rv G h q83 p83) t.heap by rw [ht]; exact hP⟩, hS.F ht⟩) hS.2.2 dX1_readItem_98
            · skip
              have hP : PP G (rv G h q83 p83) H := hP
              have hD : va_D A (rv G h q83 p83) := hD
              have htx83 : rwE (q83.2 0) tx len := by rw [hR83.2 0 (by decide)]; exact (htx)
              refine lv_goto (tgt := 98) hx hb dX1_readItem_86 (by decide) ?_
              exact W.vret hx hb hr (fun t ht hW => ⟨⟨(q83, p83), rfl, Or.inr ⟨_, _, f83, pl83, s83, rfl, by repeat (first | exact rel.refl _ | exact rel.mono (by assumption) (by decide) (by decide) | refine rel.I (by decide) ?_ | refine rel.A (by decide) ?_ | refine rel.trans ?_ (rel.mono (by assumption) (by decide) (by decide))), ((iST_l (fun q => absurd q.2 (by decide)) (by rw [← hxq]; exact c3) (by rw [← hxq]; exact c9) (by rw [← hxq]; exact hy67)).trans (by rw [← hxq])).trans hQ83, hp83, hg83, e483, e583, b83, d83, m83, k83, ebb83, hbb83, edd83, hdd83, enn83, hnn83, emm83, hmm83⟩, show PP G (rv G h q83 p83) t.heap by rw [ht]; exact hP⟩, hS.F ht⟩) hS.2.2 dX1_readItem_98
        · skip
          refine lv_if_eq (tgt := 89) hx hb dX1_readItem_70 (by decide) (fun _ => ?_) (fun c9 => absurd (by decide) c9)
          refine lv_aload_n hx hb dX1_readItem_89 rfl (lv_at hl 0 rfl) ?_
          refine lv_iconst (v := nI 1) hx hb dX1_readItem_90 (by decide) ?_
          refine lv_aload_n hx hb dX1_readItem_91 rfl (lv_at hl 0 rfl) ?_
          refine va_get (D := gD G) (ci := 1) (v := .int (rd.1 2)) (C := RX1) (T := TX1) (N := 10) hx hb hts hiX1 hown hK hP 0 rfl rfl 2 (by decide) k19 (fun _ h9 => h9) rfl dX1_readItem_92 ?_
          refine topE e2 ?_
          refine cXv (As := [.int (nI 1), .int (nI (pa.1 12))]) (rest := []) (S := oS × oS) (wa := rv G h rd w) (w1 := fun v => rv G h v.1 v.2) ⟨hx, hb, hml, hown, hts⟩ (mt_X1_fail0 l G h _ rd w (nI 1) (nI (pa.1 12)) (h40)) (cwV 2 hts gX1_readItem_X1_fail rfl rfl rfl ⟨rfl, hd_X1_fail⟩ ⟨Nat.le_of_ble_eq_true rfl, Nat.le_of_ble_eq_true rfl⟩) hK hN hP hD hS hA (fun _ => rfl) 0 1 rfl rfl rfl hl.1 rfl (Nat.le_of_ble_eq_true rfl) ⟨Nat.zero_le _, Nat.zero_le _⟩ dX1_readItem_95 (fun u95 H locs hw95 hP hD hS => ?_)
          obtain rfl := hw95
          have hP : PP G (rv G h (oI (oI rd 4 (nI 1)) 5 (nI (pa.1 12))) w) H := hP
          have hD : va_D A (rv G h (oI (oI rd 4 (nI 1)) 5 (nI (pa.1 12))) w) := hD
          exact W.vret hx hb hr (fun t ht hW => ⟨⟨(oI (oI rd 4 (nI 1)) 5 (nI (pa.1 12)), w), rfl, Or.inr ⟨_, _, 1, (pa.1 12), pa, rfl, by repeat (first | exact rel.refl _ | exact rel.mono (by assumption) (by decide) (by decide) | refine rel.I (by decide) ?_ | refine rel.A (by decide) ?_ | refine rel.trans ?_ (rel.mono (by assumption) (by decide) (by decide))), iST_1 (fun q => absurd q.2 (by decide)) (by rw [← hxq]; exact c3) (by rw [← hxq]; exact c9) (by rw [← hxq]; exact hn67) (fun q => by first | exact absurd (hxq.trans q.1) c33 | (have := q.2; omega)), by omega, by omega, rfl, rfl, ⟨pa.1 12, pa.1 23, pa.1 15, pa.1 19, e2, by omega, e8, by omega, e0, by omega, e5, by omega⟩⟩, show PP G (rv G h (oI (oI rd 4 (nI 1)) 5 (nI (pa.1 12))) w) t.heap by rw [ht]; exact hP⟩, hS.F ht⟩) hS.2.2 dX1_readItem_98
      · skip
        refine lv_aload_n hx hb dX1_readItem_36 rfl (lv_at hl 0 rfl) ?_
        refine va_get (D := gD G) (ci := 1) (v := .int (rd.1 8)) (C := RX1) (T := TX1) (N := 10) hx hb hts hiX1 hown hK hP 0 rfl rfl 8 (by decide) k38 (fun _ h9 => h9) rfl dX1_readItem_37 ?_
        refine topE e8 ?_
        refine lv_if_le (tgt := 66) hx hb dX1_readItem_40 (by decide) (fun c40 => ?_) (fun c40 => ?_)
        · skip
          have n40 : (pa.1 23) ≤ 0 := (nI_leI (a := pa.1 23) (b := 0) (by omega) (by omega)).mp c40
          refine lv_iload_n hx hb dX1_readItem_66 rfl (lv_at hl 1 rfl) ?_
          refine cSNi (As := [.int x]) (rest := []) ⟨hx, hb, hml, hown, hts⟩ (mt_X4_isSignF l x) ⟨va_cnB 1 hts ggX1_readItem_X4_isSign rfl rfl rfl hN.2 (hts (.initialized RX4) (List.mem_of_getElem? (i := 61) rfl)) hd_X4_isSign ⟨Nat.le_of_ble_eq_true rfl, Nat.le_of_ble_eq_true rfl⟩, hts (.static yX4_isSign) (List.mem_of_getElem? (i := 60) rfl), trivial⟩ rfl hl.1 rfl (Nat.le_of_ble_eq_true rfl) ⟨Nat.zero_le _, Nat.zero_le _⟩ dX1_readItem_67 (fun r67 hw67 => ?_)
          rcases hw67 with ⟨rfl, hy67⟩ | ⟨rfl, hn67⟩
          · skip
            refine lv_if_eq (tgt := 89) hx hb dX1_readItem_70 (by decide) (fun c9 => absurd c9 (by decide)) (fun _ => ?_)
            refine lv_aload_n hx hb dX1_readItem_73 rfl (lv_at hl 0 rfl) ?_
            refine cRi (w := rv G h rd w) (As := []) (rest := []) ⟨hx, hb, hml, hown, hts⟩ (mt_X1_bringerAround l G h rd w (pa.1 23) (pa.2 24) (pa.2 25) (e8) (by first | assumption | omega) (hrw.2.2.2.2.2.2.1) (hrw.2.2.2.2.2.2.2.1)) (cwV 0 hts gX1_readItem_X1_bringerAround rfl rfl rfl ⟨rfl, hd_X1_bringerAround⟩ ⟨Nat.le_of_ble_eq_true rfl, Nat.le_of_ble_eq_true rfl⟩) hK hN hP 0 1 rfl rfl rfl hl.1 rfl (Nat.le_of_ble_eq_true rfl) ⟨Nat.zero_le _, Nat.zero_le _⟩ dX1_readItem_74 (fun r74 hw74 => ?_)
            obtain rfl := hw74
            refine lv_iconst (v := (-1 : Int32)) hx hb dX1_readItem_77 (by decide) ?_
            refine lv_icmp_eq (tgt := 89) hx hb dX1_readItem_78 (by decide) (fun c78 => ?_) (fun c78 => ?_)
            · skip
              refine lv_aload_n hx hb dX1_readItem_89 rfl (lv_at hl 0 rfl) ?_
              refine lv_iconst (v := nI 1) hx hb dX1_readItem_90 (by decide) ?_
              refine lv_aload_n hx hb dX1_readItem_91 rfl (lv_at hl 0 rfl) ?_
              refine va_get (D := gD G) (ci := 1) (v := .int (rd.1 2)) (C := RX1) (T := TX1) (N := 10) hx hb hts hiX1 hown hK hP 0 rfl rfl 2 (by decide) k19 (fun _ h9 => h9) rfl dX1_readItem_92 ?_
              refine topE e2 ?_
              refine cXv (As := [.int (nI 1), .int (nI (pa.1 12))]) (rest := []) (S := oS × oS) (wa := rv G h rd w) (w1 := fun v => rv G h v.1 v.2) ⟨hx, hb, hml, hown, hts⟩ (mt_X1_fail0 l G h _ rd w (nI 1) (nI (pa.1 12)) (h40)) (cwV 2 hts gX1_readItem_X1_fail rfl rfl rfl ⟨rfl, hd_X1_fail⟩ ⟨Nat.le_of_ble_eq_true rfl, Nat.le_of_ble_eq_true rfl⟩) hK hN hP hD hS hA (fun _ => rfl) 0 1 rfl rfl rfl hl.1 rfl (Nat.le_of_ble_eq_true rfl) ⟨Nat.zero_le _, Nat.zero_le _⟩ dX1_readItem_95 (fun u95 H locs hw95 hP hD hS => ?_)
              obtain rfl := hw95
              have hP : PP G (rv G h (oI (oI rd 4 (nI 1)) 5 (nI (pa.1 12))) w) H := hP
              have hD : va_D A (rv G h (oI (oI rd 4 (nI 1)) 5 (nI (pa.1 12))) w) := hD
              exact W.vret hx hb hr (fun t ht hW => ⟨⟨(oI (oI rd 4 (nI 1)) 5 (nI (pa.1 12)), w), rfl, Or.inr ⟨_, _, 1, (pa.1 12), pa, rfl, by repeat (first | exact rel.refl _ | exact rel.mono (by assumption) (by decide) (by decide) | refine rel.I (by decide) ?_ | refine rel.A (by decide) ?_ | refine rel.trans ?_ (rel.mono (by assumption) (by decide) (by decide))), (iST_l (fun q => absurd q.2 (by decide)) (by rw [← hxq]; exact c3) (by rw [← hxq]; exact c9) (by rw [← hxq]; exact hy67)).trans (by unfold lST; exact lSa_1 (by rw [c78]; decide)), by omega, by omega, rfl, rfl, ⟨pa.1 12, pa.1 23, pa.1 15, pa.1 19, e2, by omega, e8, by omega, e0, by omega, e5, by omega⟩⟩, show PP G (rv G h (oI (oI rd 4 (nI 1)) 5 (nI (pa.1 12))) w) t.heap by rw [ht]; exact hP⟩, hS.F ht⟩) hS.2.2 dX1_readItem_98
            · skip
              refine lv_aload_n hx hb dX1_readItem_81 rfl (lv_at hl 0 rfl) ?_
              refine lv_iload_n hx hb dX1_readItem_82 rfl (lv_at hl 1 rfl) ?_
              refine cXv (As := [.int x]) (rest := []) (S := oS × oS) (wa := rv G h rd w) (w1 := fun v => rv G h v.1 v.2) ⟨hx, hb, hml, hown, hts⟩ (mt_X1_readOneLine l G h _ rd w tx len pa x (hs) (htx) (h40) (by first | assumption | omega) (by first | assumption | omega) (by first | assumption | omega) (c78)) (cwV 1 hts gX1_readItem_X1_readOneLine rfl rfl rfl ⟨rfl, hd_X1_readOneLine⟩ ⟨Nat.le_of_ble_eq_true rfl, Nat.le_of_ble_eq_true rfl⟩) hK hN hP hD hS hA (fun _ => rfl) 0 1 rfl rfl rfl hl.1 rfl (Nat.le_of_ble_eq_true rfl) ⟨Nat.zero_le _, Nat.zero_le _⟩ dX1_readItem_83 (fun u83 H locs hw83 hP hD hS => ?_)
              rcases hw83 with ⟨q83, p83, s83, rfl, hR83, hQ83, hS83, ha83, hPb83, hd83⟩ | ⟨q83, p83, f83, pl83, s83, rfl, hR83, hQ83, hp83, hg83, e483, e583, b83, d83, m83, k83, ebb83, hbb83, edd83, hdd83, enn83, hnn83, emm83, hmm83⟩
              · skip
                have hP : PP G (rv G h q83 p83) H := hP
                have hD : va_D A (rv G h q83 p83) := hD
                have htx83 : rwE (q83.2 0) tx len := by rw [hR83.2 0 (by decide)]; exact (htx)
                refine lv_goto (tgt := 98) hx hb dX1_readItem_86 (by decide) ?_
                exact W.vret hx hb hr (fun t ht hW => ⟨⟨(q83, p83), rfl, Or.inl ⟨_, _, s83, rfl, by repeat (first | exact rel.refl _ | exact rel.mono (by assumption) (by decide) (by decide) | refine rel.I (by decide) ?_ | refine rel.A (by decide) ?_ | refine rel.trans ?_ (rel.mono (by assumption) (by decide) (by decide))), ((iST_l (fun q => absurd q.2 (by decide)) (by rw [← hxq]; exact c3) (by rw [← hxq]; exact c9) (by rw [← hxq]; exact hy67)).trans (by rw [← hxq])).trans hQ83, hS83, ha83, hPb83, hd83⟩, show PP G (rv G h q83 p83) t.heap by rw [ht]; exact hP⟩, hS.F ht⟩) hS.2.2 dX1_readItem_98
              · skip
                have hP : PP G (rv G h q83 p83) H := hP
                have hD : va_D A (rv G h q83 p83) := hD
                have htx83 : rwE (q83.2 0) tx len := by rw [hR83.2 0 (by decide)]; exact (htx)
                refine lv_goto (tgt := 98) hx hb dX1_readItem_86 (by decide) ?_
                exact W.vret hx hb hr (fun t ht hW => ⟨⟨(q83, p83), rfl, Or.inr ⟨_, _, f83, pl83, s83, rfl, by repeat (first | exact rel.refl _ | exact rel.mono (by assumption) (by decide) (by decide) | refine rel.I (by decide) ?_ | refine rel.A (by decide) ?_ | refine rel.trans ?_ (rel.mono (by assumption) (by decide) (by decide))), ((iST_l (fun q => absurd q.2 (by decide)) (by rw [← hxq]; exact c3) (by rw [← hxq]; exact c9) (by rw [← hxq]; exact hy67)).trans (by rw [← hxq])).trans hQ83, hp83, hg83, e483, e583, b83, d83, m83, k83, ebb83, hbb83, edd83, hdd83, enn83, hnn83, emm83, hmm83⟩, show PP G (rv G h q83 p83) t.heap by rw [ht]; exact hP⟩, hS.F ht⟩) hS.2.2 dX1_readItem_98
          · skip
            refine lv_if_eq (tgt := 89) hx hb dX1_readItem_70 (by decide) (fun _ => ?_) (fun c9 => absurd (by decide) c9)
            refine lv_aload_n hx hb dX1_readItem_89 rfl (lv_at hl 0 rfl) ?_
            refine lv_iconst (v := nI 1) hx hb dX1_readItem_90 (by decide) ?_
            refine lv_aload_n hx hb dX1_readItem_91 rfl (lv_at hl 0 rfl) ?_
            refine va_get (D := gD G) (ci := 1) (v := .int (rd.1 2)) (C := RX1) (T := TX1) (N := 10) hx hb hts hiX1 hown hK hP 0 rfl rfl 2 (by decide) k19 (fun _ h9 => h9) rfl dX1_readItem_92 ?_
            refine topE e2 ?_
            refine cXv (As := [.int (nI 1), .int (nI (pa.1 12))]) (rest := []) (S := oS × oS) (wa := rv G h rd w) (w1 := fun v => rv G h v.1 v.2) ⟨hx, hb, hml, hown, hts⟩ (mt_X1_fail0 l G h _ rd w (nI 1) (nI (pa.1 12)) (h40)) (cwV 2 hts gX1_readItem_X1_fail rfl rfl rfl ⟨rfl, hd_X1_fail⟩ ⟨Nat.le_of_ble_eq_true rfl, Nat.le_of_ble_eq_true rfl⟩) hK hN hP hD hS hA (fun _ => rfl) 0 1 rfl rfl rfl hl.1 rfl (Nat.le_of_ble_eq_true rfl) ⟨Nat.zero_le _, Nat.zero_le _⟩ dX1_readItem_95 (fun u95 H locs hw95 hP hD hS => ?_)
            obtain rfl := hw95
            have hP : PP G (rv G h (oI (oI rd 4 (nI 1)) 5 (nI (pa.1 12))) w) H := hP
            have hD : va_D A (rv G h (oI (oI rd 4 (nI 1)) 5 (nI (pa.1 12))) w) := hD
            exact W.vret hx hb hr (fun t ht hW => ⟨⟨(oI (oI rd 4 (nI 1)) 5 (nI (pa.1 12)), w), rfl, Or.inr ⟨_, _, 1, (pa.1 12), pa, rfl, by repeat (first | exact rel.refl _ | exact rel.mono (by assumption) (by decide) (by decide) | refine rel.I (by decide) ?_ | refine rel.A (by decide) ?_ | refine rel.trans ?_ (rel.mono (by assumption) (by decide) (by decide))), iST_1 (fun q => absurd q.2 (by decide)) (by rw [← hxq]; exact c3) (by rw [← hxq]; exact c9) (by rw [← hxq]; exact hn67) (fun q => by first | exact absurd (hxq.trans q.1) c33 | (have := q.2; omega)), by omega, by omega, rfl, rfl, ⟨pa.1 12, pa.1 23, pa.1 15, pa.1 19, e2, by omega, e8, by omega, e0, by omega, e5, by omega⟩⟩, show PP G (rv G h (oI (oI rd 4 (nI 1)) 5 (nI (pa.1 12))) w) t.heap by rw [ht]; exact hP⟩, hS.F ht⟩) hS.2.2 dX1_readItem_98
        · skip
          have n40 : ¬ ((pa.1 23) ≤ 0) := fun q9 => c40 ((nI_leI (a := pa.1 23) (b := 0) (by omega) (by omega)).mpr q9)
          refine lv_aload_n hx hb dX1_readItem_43 rfl (lv_at hl 0 rfl) ?_
          refine lv_dup hx hb dX1_readItem_44 rfl ?_
          refine va_get (D := gD G) (ci := 1) (v := .int (rd.1 8)) (C := RX1) (T := TX1) (N := 10) hx hb hts hiX1 hown hK hP 0 rfl rfl 8 (by decide) k38 (fun _ h9 => h9) rfl dX1_readItem_45 ?_
          refine topE e8 ?_
          refine lv_iconst (v := nI 1) hx hb dX1_readItem_48 (by decide) ?_
          refine lv_isub hx hb dX1_readItem_49 ?_
          refine topE (y := nI ((pa.1 23) - 1)) (pk_sub (by omega)) ?_
          refine va_put (D := gD G) (ci := 1) (v := .int (nI ((pa.1 23) - 1))) (ty := .int) (C := RX1) (T := TX1) (N := 10) hx hb hts hiX1 tyX1 tyX1_ok nmX1 hown hK hP hD hS 0 rfl rfl 8 (by decide) k38 (fun _ h9 => h9) rfl (tyX1_ok 8 (by decide)) (rfl) (rfl) (Nat.le_of_ble_eq_true rfl) dX1_readItem_50 (fun H locs hP hD hS => ?_)
          have hP : PP G (rv G h (oI rd 8 (nI ((pa.1 23) - 1))) w) H := hP
          have hD : va_D A (rv G h (oI rd 8 (nI ((pa.1 23) - 1))) w) := hD
          refine lv_aload_n hx hb dX1_readItem_53 rfl (lv_at hl 0 rfl) ?_
          refine lv_dup hx hb dX1_readItem_54 rfl ?_
          refine va_get (D := gD G) (ci := 1) (v := .int (rd.1 2)) (C := RX1) (T := TX1) (N := 10) hx hb hts hiX1 hown hK hP 0 rfl rfl 2 (by decide) k19 (fun _ h9 => h9) rfl dX1_readItem_55 ?_
          refine topE e2 ?_
          refine lv_iconst (v := nI 1) hx hb dX1_readItem_58 (by decide) ?_
          refine lv_iadd hx hb dX1_readItem_59 ?_
          refine topE (y := nI ((pa.1 12) + 1)) (nI_add (pa.1 12) 1) ?_
          refine va_put (D := gD G) (ci := 1) (v := .int (nI ((pa.1 12) + 1))) (ty := .int) (C := RX1) (T := TX1) (N := 10) hx hb hts hiX1 tyX1 tyX1_ok nmX1 hown hK hP hD hS 0 rfl rfl 2 (by decide) k19 (fun _ h9 => h9) rfl (tyX1_ok 2 (by decide)) (rfl) (rfl) (Nat.le_of_ble_eq_true rfl) dX1_readItem_60 (fun H locs hP hD hS => ?_)
          have hP : PP G (rv G h (oI (oI rd 8 (nI ((pa.1 23) - 1))) 2 (nI ((pa.1 12) + 1))) w) H := hP
          have hD : va_D A (rv G h (oI (oI rd 8 (nI ((pa.1 23) - 1))) 2 (nI ((pa.1 12) + 1))) w) := hD
          refine lv_goto (tgt := 98) hx hb dX1_readItem_63 (by decide) ?_
          exact W.vret hx hb hr (fun t ht hW => ⟨⟨(oI (oI rd 8 (nI ((pa.1 23) - 1))) 2 (nI ((pa.1 12) + 1)), w), rfl, by
                                        have HQ : iST tx len false pa = (0, 0, cOK pa) := iST_c (by rw [← hxq]; exact c33) (by omega)
                                        exact Or.inl ⟨_, _, cOK pa, rfl, by repeat (first | exact rel.refl _ | exact rel.mono (by assumption) (by decide) (by decide) | refine rel.I (by decide) ?_ | refine rel.A (by decide) ?_ | refine rel.trans ?_ (rel.mono (by assumption) (by decide) (by decide))), HQ, ⟨e1, rfl, rfl, e0, e5, ⟨q240, (show (pa.1 12) + 1 ≤ len by omega), (show pa.1 15 ≤ 24 by omega), (show pa.1 19 ≤ 120 by omega), (show (pa.1 23) - 1 ≤ (pa.1 12) + 1 by omega), qpar⟩, RwC_c hrw rfl rfl⟩, (show pa.1 12 < (pa.1 12) + 1 by omega), (hPb.le (Nat.sub_le _ _)), (show (pa.1 23) - 1 ≤ 48 by omega)⟩, show PP G (rv G h (oI (oI rd 8 (nI ((pa.1 23) - 1))) 2 (nI ((pa.1 12) + 1))) w) t.heap by rw [ht]; exact hP⟩, hS.F ht⟩) hS.2.2 dX1_readItem_98
    · skip
      refine lv_aload_n hx hb dX1_readItem_12 rfl (lv_at hl 0 rfl) ?_
      refine lv_iload_n hx hb dX1_readItem_13 rfl (lv_at hl 1 rfl) ?_
      refine lv_bipush (v := nI 105) hx hb dX1_readItem_14 (by decide) ?_
      refine lv_icmp_ne (tgt := 23) hx hb dX1_readItem_16 (by decide) (fun c16 => ?_) (fun c16 => ?_)
      · skip
        refine lv_iconst (v := nI 0) hx hb dX1_readItem_23 (by decide) ?_
        refine cXv (As := [.int (nI 0)]) (rest := []) (S := oS × oS) (wa := rv G h rd w) (w1 := fun v => rv G h v.1 v.2) ⟨hx, hb, hml, hown, hts⟩ (mt_X1_beginBlock l G h _ rd w tx len pa (nI 0) (hs) (htx) (h40) (by first | assumption | omega) (by first | assumption | omega) (by first | assumption | omega) (by decide)) (cwV 1 hts gX1_readItem_X1_beginBlock rfl rfl rfl ⟨rfl, hd_X1_beginBlock⟩ ⟨Nat.le_of_ble_eq_true rfl, Nat.le_of_ble_eq_true rfl⟩) hK hN hP hD hS hA (fun _ => rfl) 0 1 rfl rfl rfl hl.1 rfl (Nat.le_of_ble_eq_true rfl) ⟨Nat.zero_le _, Nat.zero_le _⟩ dX1_readItem_24 (fun u24 H locs hw24 hP hD hS => ?_)
        rcases hw24 with ⟨q24, p24, s24, rfl, hR24, hQ24, hS24, ha24, hPb24, hd24⟩ | ⟨q24, p24, f24, pl24, s24, rfl, hR24, hQ24, hp24, hg24, e424, e524, b24, d24, m24, k24, ebb24, hbb24, edd24, hdd24, enn24, hnn24, emm24, hmm24⟩
        · skip
          have hP : PP G (rv G h q24 p24) H := hP
          have hD : va_D A (rv G h q24 p24) := hD
          have htx24 : rwE (q24.2 0) tx len := by rw [hR24.2 0 (by decide)]; exact (htx)
          refine lv_goto (tgt := 98) hx hb dX1_readItem_27 (by decide) ?_
          exact W.vret hx hb hr (fun t ht hW => ⟨⟨(q24, p24), rfl, Or.inl ⟨_, _, s24, rfl, by repeat (first | exact rel.refl _ | exact rel.mono (by assumption) (by decide) (by decide) | refine rel.I (by decide) ?_ | refine rel.A (by decide) ?_ | refine rel.trans ?_ (rel.mono (by assumption) (by decide) (by decide))), (iST_d (hxq.symm.trans c9)).trans hQ24, hS24, ha24, hPb24, hd24⟩, show PP G (rv G h q24 p24) t.heap by rw [ht]; exact hP⟩, hS.F ht⟩) hS.2.2 dX1_readItem_98
        · skip
          have hP : PP G (rv G h q24 p24) H := hP
          have hD : va_D A (rv G h q24 p24) := hD
          have htx24 : rwE (q24.2 0) tx len := by rw [hR24.2 0 (by decide)]; exact (htx)
          refine lv_goto (tgt := 98) hx hb dX1_readItem_27 (by decide) ?_
          exact W.vret hx hb hr (fun t ht hW => ⟨⟨(q24, p24), rfl, Or.inr ⟨_, _, f24, pl24, s24, rfl, by repeat (first | exact rel.refl _ | exact rel.mono (by assumption) (by decide) (by decide) | refine rel.I (by decide) ?_ | refine rel.A (by decide) ?_ | refine rel.trans ?_ (rel.mono (by assumption) (by decide) (by decide))), (iST_d (hxq.symm.trans c9)).trans hQ24, hp24, hg24, e424, e524, b24, d24, m24, k24, ebb24, hbb24, edd24, hdd24, enn24, hnn24, emm24, hmm24⟩, show PP G (rv G h q24 p24) t.heap by rw [ht]; exact hP⟩, hS.F ht⟩) hS.2.2 dX1_readItem_98
      · skip
        exact absurd c16 c3
set_option maxHeartbeats 1000000 in
set_option maxRecDepth 100000 in
theorem mt_X1_readOneVersion (l : Launch) (G : gG) (h : Nat → Nat) (sz : Nat) (rd : oS) (w : oS) (tx : Nat → Int32) (len : Nat) (pa : pS) (hs : RSc rd w len pa) (htx : rwE (rd.2 0) tx len) (h40 : rd.1 4 = nI 0) (hAl : pa.1 12 < len) (hPb : PIb (pa.2 24) (pa.2 25) (pa.1 23)) (hd48 : pa.1 23 ≤ 48) : Met l yX1_readOneVersion wsX1_readOneVersion ({ frames := 4, cells := 0, slots := 0, locals := 89 }) (preW G (rv G h rd w) sz [.ref (h 0)]) (va_Qv (fun (v : oS × oS) => (∃ q p s2, v = (q, p) ∧ rel [2, 3, 8] [6, 7] rd q ∧ vST tx len pa = (0, 0, s2) ∧ RSc q p len s2 ∧ pa.1 12 < s2.1 12 ∧ PIb (s2.2 24) (s2.2 25) (s2.1 23) ∧ s2.1 23 ≤ 48) ∨ (∃ q p f pl s2, v = (q, p) ∧ rel [2, 3, 4, 5, 8] [6, 7] rd q ∧ vST tx len pa = (f, pl, s2) ∧ 0 < f ∧ f ≤ 4 ∧ q.1 4 = nI f ∧ q.1 5 = nI pl ∧ ∃ b d n m, q.1 2 = nI b ∧ b ≤ len ∧ q.1 8 = nI d ∧ d ≤ 48 ∧ p.1 0 = nI n ∧ n ≤ 24 ∧ p.1 5 = nI m ∧ m ≤ 120)) (fun v t => PP G (rv G h v.1 v.2) t.heap) (va_A (rv G h rd w) sz)) 0 0 (va_A (rv G h rd w) sz) := by
  refine Met.ofW (cc := cX1_readOneVersion) (maxL := 4) (ret := none) (by decide) rfl ?_
  intro p e s m args below meth c s₁ B hml hv
  obtain ⟨ha, hsz, hP, hK, hN, hD0⟩ := hv
  subst ha
  have hx := B.exec
  have hb := B.bytes
  have hr := B.returns
  have hts := atoms_spec (ws := wsX1_readOneVersion) B.pre
  have hown : s.vm.findClass RX1 = some m.cls := findClass_of_methodNamed B.named
  have hlocks := B.notSynchronized
  subst hsz
  have hD := hD0.self (sz := s.heap.size)
  generalize hAe : va_A (rv G h rd w) s.heap.size = A at hD ⊢
  have hA : ∀ q : Nat, s.heap.size ≤ q → A q := fun q h => by rw [← hAe]; exact Or.inr h
  clear hAe hD0
  have hS : va_S A s.heap s.heap [] := va_S.rf
  have hiX1 : ∀ w ∈ wsX10, w ∈ wsX1_readOneVersion := fun w h9 => List.mem_cons_of_mem _ (List.mem_append_left _ (List.mem_append_right _ (h9)))
  have k44 := hts (.fieldLink RX1 44 "WovenHistory$Reader" "woven" "LWovenHistory$Weave;") (List.mem_of_getElem? (i := 1) rfl)
  have hiX3 : ∀ w ∈ wsX30, w ∈ wsX1_readOneVersion := fun w h9 => List.mem_cons_of_mem _ (List.mem_append_right _ (h9))
  have k76 : (Cond.fieldLinkNest "WovenHistory$Reader" 76 "WovenHistory$Weave" "versions" "I" "WovenHistory").before _ s = true := va_Nw.use (A := ([.ref (h 0)] : List Value).toArray) rfl (hN.1 ("WovenHistory$Reader", 76, "WovenHistory$Weave", "versions", "I") (List.mem_of_getElem? (i := 15) rfl))
  have k19 := hts (.fieldLink RX1 19 "WovenHistory$Reader" "at" "I") (List.mem_of_getElem? (i := 2) rfl)
  have k25 := hts (.fieldLink RX1 25 "WovenHistory$Reader" "faultNumber" "I") (List.mem_of_getElem? (i := 3) rfl)
  have hl := lv_entry ([.ref (h 0)]) (n := 4) (Nat.le_of_ble_eq_true rfl)
  rw [lg_entry_eq]
  generalize (lg_sl ([.ref (h 0)]) ++ List.replicate (4 - (lg_sl ([.ref (h 0)])).length) Slot.unset).toArray = ls at hl ⊢
  have hl : lv_has ls 4 [(0, .ref (h 0))] := hl
  obtain ⟨e1, e2, e8, e0, e5, ⟨q240, qa, qv, ql, qd, qpar⟩, hrw⟩ := id hs
  refine lv_aload_n hx hb dX1_readOneVersion_0 rfl (lv_at hl 0 rfl) ?_
  refine va_get (D := gD G) (ci := 1) (v := .ref (h 10)) (C := RX1) (T := TX1) (N := 10) hx hb hts hiX1 hown hK hP 0 rfl rfl 9 (by decide) k44 (fun _ h9 => h9) rfl dX1_readOneVersion_1 ?_
  refine va_getN (D := gD G) (ci := 3) (v := .int (w.1 0)) (C := RX3) (T := TX3) (N := 9) hx hb hts hiX3 hown hK hP 4 rfl rfl 0 (by decide) k76 (fun _ h9 => h9) rfl dX1_readOneVersion_4 ?_
  refine topE e0 ?_
  refine lv_bipush (v := nI 24) hx hb dX1_readOneVersion_7 (by decide) ?_
  refine lv_icmp_lt (tgt := 22) hx hb dX1_readOneVersion_9 (by decide) (fun c9 => ?_) (fun c9 => ?_)
  · skip
    have n9 : (pa.1 15) < 24 := (nI_ltI (a := pa.1 15) (b := 24) (by omega) (by omega)).mp c9
    have n9 : ¬ pa.1 15 = 24 := by omega
    refine lv_aload_n hx hb dX1_readOneVersion_22 rfl (lv_at hl 0 rfl) ?_
    refine lv_dup hx hb dX1_readOneVersion_23 rfl ?_
    refine va_get (D := gD G) (ci := 1) (v := .int (rd.1 2)) (C := RX1) (T := TX1) (N := 10) hx hb hts hiX1 hown hK hP 0 rfl rfl 2 (by decide) k19 (fun _ h9 => h9) rfl dX1_readOneVersion_24 ?_
    refine topE e2 ?_
    refine lv_iconst (v := nI 1) hx hb dX1_readOneVersion_27 (by decide) ?_
    refine lv_iadd hx hb dX1_readOneVersion_28 ?_
    refine topE (y := nI ((pa.1 12) + 1)) (nI_add (pa.1 12) 1) ?_
    refine va_put (D := gD G) (ci := 1) (v := .int (nI ((pa.1 12) + 1))) (ty := .int) (C := RX1) (T := TX1) (N := 10) hx hb hts hiX1 tyX1 tyX1_ok nmX1 hown hK hP hD hS 0 rfl rfl 2 (by decide) k19 (fun _ h9 => h9) rfl (tyX1_ok 2 (by decide)) (rfl) (rfl) (Nat.le_of_ble_eq_true rfl) dX1_readOneVersion_29 (fun H locs hP hD hS => ?_)
    have hP : PP G (rv G h (oI rd 2 (nI ((pa.1 12) + 1))) w) H := hP
    have hD : va_D A (rv G h (oI rd 2 (nI ((pa.1 12) + 1))) w) := hD
    refine lv_aload_n hx hb dX1_readOneVersion_32 rfl (lv_at hl 0 rfl) ?_
    refine cXi (As := []) (rest := []) (S := oS × oS) (wa := rv G h (oI rd 2 (nI ((pa.1 12) + 1))) w) (w1 := fun v => rv G h v.1 v.2) ⟨hx, hb, hml, hown, hts⟩ (mt_X1_readParent l G h _ (oI rd 2 (nI ((pa.1 12) + 1))) w len ((pa.1 12) + 1) (pa.1 15) tx (e1) (rfl) (e0) (by first | assumption | omega) (by first | assumption | omega) (by first | assumption | omega) (htx) (h40)) (cwV 0 hts gX1_readOneVersion_X1_readParent rfl rfl rfl ⟨rfl, hd_X1_readParent⟩ ⟨Nat.le_of_ble_eq_true rfl, Nat.le_of_ble_eq_true rfl⟩) hK hN hP hD hS hA (fun _ => rfl) 0 1 rfl rfl rfl hl.1 rfl (Nat.le_of_ble_eq_true rfl) ⟨Nat.zero_le _, Nat.zero_le _⟩ dX1_readOneVersion_33 (fun r33 u33 H locs hw33 hP hD hS => ?_)
    rcases hw33 with ⟨q33, rfl, hR33, hb33, hf33, hc33, rfl⟩ | ⟨q33, f33, rfl, hR33, hb33, hp33, hg33, e433, e533, hc33⟩
    · skip
      have hP : PP G (rv G h q33 w) H := hP
      have hD : va_D A (rv G h q33 w) := hD
      have htx33 : rwE (q33.2 0) tx len := by rw [hR33.2 0 (by decide)]; exact (htx)
      have hEg33 : ((pa.1 12) + 1) ≤ nE tx len ((pa.1 12) + 1) := nE_ge _ _ _
      have hEl33 : nE tx len ((pa.1 12) + 1) ≤ len := nE_le (by omega)
      refine lv_istore_n (lv' := [(1, .int (if nV tx len ((pa.1 12) + 1) = 99 then -1 else nI (nV tx len ((pa.1 12) + 1)))), (0, .ref (h 0))]) hx hb dX1_readOneVersion_36 rfl hl (by decide) rfl (fun ls hl => ?_)
      refine lv_aload_n hx hb dX1_readOneVersion_37 rfl (lv_at hl 1 rfl) ?_
      refine lv_bipush (v := nI 43) hx hb dX1_readOneVersion_38 (by decide) ?_
      refine lv_iconst (v := nI 0) hx hb dX1_readOneVersion_40 (by decide) ?_
      refine cXi (As := [.int (nI 43), .int (nI 0)]) (rest := []) (S := oS × oS) (wa := rv G h q33 w) (w1 := fun v => rv G h v.1 v.2) ⟨hx, hb, hml, hown, hts⟩ (mt_X1_readOthers0 l G h _ q33 w len (nE tx len ((pa.1 12) + 1)) (pa.1 15) tx (nI 43) (nI 0) ((hR33.1 1 (by decide)).trans (e1)) (hb33) (e0) (by first | assumption | omega) (by first | assumption | omega) (by first | assumption | omega) (htx33) ((hR33.1 4 (by decide)).trans (h40)) (by decide)) (cwV 2 hts gX1_readOneVersion_X1_readOthers rfl rfl rfl ⟨rfl, hd_X1_readOthers⟩ ⟨Nat.le_of_ble_eq_true rfl, Nat.le_of_ble_eq_true rfl⟩) hK hN hP hD hS hA (fun _ => rfl) 0 1 rfl rfl rfl hl.1 rfl (Nat.le_of_ble_eq_true rfl) ⟨Nat.zero_le _, Nat.zero_le _⟩ dX1_readOneVersion_41 (fun r41 u41 H locs hw41 hP hD hS => ?_)
      rcases hw41 with ⟨q41, b41, x41, rfl, hR41, hb41, hab41, hbn41, hO41, rfl⟩ | ⟨q41, b41, f41, p41, e41, y41, rfl, hR41, hb41, hbn41, hO41, e441, e541, hp41, hg41⟩
      · skip
        have hP : PP G (rv G h q41 w) H := hP
        have hD : va_D A (rv G h q41 w) := hD
        have htx41 : rwE (q41.2 0) tx len := by rw [hR41.2 0 (by decide)]; exact (htx33)
        refine lv_istore_n (lv' := [(2, .int r41), (1, .int (if nV tx len ((pa.1 12) + 1) = 99 then -1 else nI (nV tx len ((pa.1 12) + 1)))), (0, .ref (h 0))]) hx hb dX1_readOneVersion_44 rfl hl (by decide) rfl (fun ls hl => ?_)
        refine lv_aload_n hx hb dX1_readOneVersion_45 rfl (lv_at hl 2 rfl) ?_
        refine lv_bipush (v := nI 45) hx hb dX1_readOneVersion_46 (by decide) ?_
        refine lv_iload_n hx hb dX1_readOneVersion_48 rfl (lv_at hl 0 rfl) ?_
        refine cXi (As := [.int (nI 45), .int r41]) (rest := []) (S := oS × oS) (wa := rv G h q41 w) (w1 := fun v => rv G h v.1 v.2) ⟨hx, hb, hml, hown, hts⟩ (mt_X1_readOthers0 l G h _ q41 w len b41 (pa.1 15) tx (nI 45) r41 ((hR41.1 1 (by decide)).trans ((hR33.1 1 (by decide)).trans (e1))) (hb41) (e0) (by first | assumption | omega) (by first | assumption | omega) (by first | assumption | omega) (htx41) ((hR41.1 4 (by decide)).trans ((hR33.1 4 (by decide)).trans (h40))) (by decide)) (cwV 2 hts gX1_readOneVersion_X1_readOthers rfl rfl rfl ⟨rfl, hd_X1_readOthers⟩ ⟨Nat.le_of_ble_eq_true rfl, Nat.le_of_ble_eq_true rfl⟩) hK hN hP hD hS hA (fun _ => rfl) 0 1 rfl rfl rfl hl.1 rfl (Nat.le_of_ble_eq_true rfl) ⟨Nat.zero_le _, Nat.zero_le _⟩ dX1_readOneVersion_49 (fun r49 u49 H locs hw49 hP hD hS => ?_)
        rcases hw49 with ⟨q49, b49, x49, rfl, hR49, hb49, hab49, hbn49, hO49, rfl⟩ | ⟨q49, b49, f49, p49, e49, y49, rfl, hR49, hb49, hbn49, hO49, e449, e549, hp49, hg49⟩
        · skip
          have hP : PP G (rv G h q49 w) H := hP
          have hD : va_D A (rv G h q49 w) := hD
          have htx49 : rwE (q49.2 0) tx len := by rw [hR49.2 0 (by decide)]; exact (htx41)
          refine lv_istore_n (lv' := [(3, .int r49), (2, .int r41), (1, .int (if nV tx len ((pa.1 12) + 1) = 99 then -1 else nI (nV tx len ((pa.1 12) + 1)))), (0, .ref (h 0))]) hx hb dX1_readOneVersion_52 rfl hl (by decide) rfl (fun ls hl => ?_)
          refine lv_aload_n hx hb dX1_readOneVersion_53 rfl (lv_at hl 3 rfl) ?_
          refine lv_bipush (v := nI 59) hx hb dX1_readOneVersion_54 (by decide) ?_
          refine cXv (As := [.int (nI 59)]) (rest := []) (S := oS × oS) (wa := rv G h q49 w) (w1 := fun v => rv G h v.1 v.2) ⟨hx, hb, hml, hown, hts⟩ (mt_X1_expect0 l G h _ q49 w len b49 tx (nI 59) ((hR49.1 1 (by decide)).trans ((hR41.1 1 (by decide)).trans ((hR33.1 1 (by decide)).trans (e1)))) (hb49) (by first | assumption | omega) (by first | assumption | omega) (htx49) ((hR49.1 4 (by decide)).trans ((hR41.1 4 (by decide)).trans ((hR33.1 4 (by decide)).trans (h40)))) (by decide)) (cwV 1 hts gX1_readOneVersion_X1_expect rfl rfl rfl ⟨rfl, hd_X1_expect⟩ ⟨Nat.le_of_ble_eq_true rfl, Nat.le_of_ble_eq_true rfl⟩) hK hN hP hD hS hA (fun _ => rfl) 0 1 rfl rfl rfl hl.1 rfl (Nat.le_of_ble_eq_true rfl) ⟨Nat.zero_le _, Nat.zero_le _⟩ dX1_readOneVersion_56 (fun u56 H locs hw56 hP hD hS => ?_)
          rcases hw56 with ⟨hc56, rfl⟩ | ⟨hc56, rfl⟩
          · skip
            have hP : PP G (rv G h (oI q49 2 (nI (sk tx len b49 + 1))) w) H := hP
            have hD : va_D A (rv G h (oI q49 2 (nI (sk tx len b49 + 1))) w) := hD
            have hge56 : b49 ≤ sk tx len b49 := rn_ge _
            have hle56 : sk tx len b49 ≤ len := rn_le (by omega)
            have hcl56 := hd_c hc56 (by first | assumption | decide)
            refine lv_aload_n hx hb dX1_readOneVersion_59 rfl (lv_at hl 3 rfl) ?_
            refine va_get (D := gD G) (ci := 1) (v := .int (q49.1 4)) (C := RX1) (T := TX1) (N := 10) hx hb hts hiX1 hown hK hP 0 rfl rfl 4 (by decide) k25 (fun _ h9 => h9) rfl dX1_readOneVersion_60 ?_
            refine topE ((hR49.1 4 (by decide)).trans ((hR41.1 4 (by decide)).trans ((hR33.1 4 (by decide)).trans (h40)))) ?_
            refine lv_if_ne (tgt := 83) hx hb dX1_readOneVersion_63 (by decide) (fun c9 => absurd (by decide) c9) (fun _ => ?_)
            refine lv_aload_n hx hb dX1_readOneVersion_66 rfl (lv_at hl 3 rfl) ?_
            refine va_get (D := gD G) (ci := 1) (v := .ref (h 10)) (C := RX1) (T := TX1) (N := 10) hx hb hts hiX1 hown hK hP 0 rfl rfl 9 (by decide) k44 (fun _ h9 => h9) rfl dX1_readOneVersion_67 ?_
            refine lv_iload_n hx hb dX1_readOneVersion_70 rfl (lv_at hl 2 rfl) ?_
            refine lv_iload_n hx hb dX1_readOneVersion_71 rfl (lv_at hl 1 rfl) ?_
            refine lv_iload_n hx hb dX1_readOneVersion_72 rfl (lv_at hl 0 rfl) ?_
            refine cWv (As := [.int (if nV tx len ((pa.1 12) + 1) = 99 then -1 else nI (nV tx len ((pa.1 12) + 1))), .int r41, .int r49]) (rest := []) (S := oS) (wa := rv G h (oI q49 2 (nI (sk tx len b49 + 1))) w) (wc := wv G (fun k => h (10 + k)) w) (w1 := fun v => wv G (fun k => h (10 + k)) v) (wa' := fun v => rv G h (oI q49 2 (nI (sk tx len b49 + 1))) v) ⟨hx, hb, hml, hown, hts⟩ (mt_X3_beginVersionF l G (fun k => h (10 + k)) _ w (pa.1 15) (if nV tx len ((pa.1 12) + 1) = 99 then -1 else nI (nV tx len ((pa.1 12) + 1))) r41 r49 (e0) (by first | assumption | omega) (by by_cases e9 : (nV tx len (pa.1 12 + 1)) = 99; exact Or.inl (if_pos e9); exact Or.inr ⟨(nV tx len (pa.1 12 + 1)), by omega, if_neg e9⟩) (parRw hrw.1 qpar) (hrw.2.2.2.2.2.2.2.2)) (cwV 3 hts gX1_readOneVersion_X3_beginVersion rfl rfl rfl ⟨rfl, hd_X3_beginVersion⟩ ⟨Nat.le_of_ble_eq_true rfl, Nat.le_of_ble_eq_true rfl⟩) hK hN hP hD hS hA [4, 5, 6, 7, 8, 9, 10, 11] rfl (by decide) rfl (fun _ => rfl) (fun _ => rfl) (fun _ => rfl) 0 3 rfl rfl rfl hl.1 rfl (Nat.le_of_ble_eq_true rfl) ⟨Nat.zero_le _, Nat.zero_le _⟩ dX1_readOneVersion_73 (fun u73 H locs hw73 hP hD hS => ?_)
            obtain rfl := hw73
            have hP : PP G (rv G h (oI q49 2 (nI (sk tx len b49 + 1))) (bgW w (pa.1 15) (if nV tx len ((pa.1 12) + 1) = 99 then -1 else nI (nV tx len ((pa.1 12) + 1))) r41 r49)) H := hP
            have hD : va_D A (rv G h (oI q49 2 (nI (sk tx len b49 + 1))) (bgW w (pa.1 15) (if nV tx len ((pa.1 12) + 1) = 99 then -1 else nI (nV tx len ((pa.1 12) + 1))) r41 r49)) := hD
            refine lv_aload_n hx hb dX1_readOneVersion_76 rfl (lv_at hl 3 rfl) ?_
            refine va_get (D := gD G) (ci := 1) (v := .ref (h 10)) (C := RX1) (T := TX1) (N := 10) hx hb hts hiX1 hown hK hP 0 rfl rfl 9 (by decide) k44 (fun _ h9 => h9) rfl dX1_readOneVersion_77 ?_
            refine cWv (As := []) (rest := []) (S := oS) (wa := rv G h (oI q49 2 (nI (sk tx len b49 + 1))) (bgW w (pa.1 15) (if nV tx len ((pa.1 12) + 1) = 99 then -1 else nI (nV tx len ((pa.1 12) + 1))) r41 r49)) (wc := wv G (fun k => h (10 + k)) (bgW w (pa.1 15) (if nV tx len ((pa.1 12) + 1) = 99 then -1 else nI (nV tx len ((pa.1 12) + 1))) r41 r49)) (w1 := fun v => wv G (fun k => h (10 + k)) v) (wa' := fun v => rv G h (oI q49 2 (nI (sk tx len b49 + 1))) v) ⟨hx, hb, hml, hown, hts⟩ (mt_X3_finishVersionF l G (fun k => h (10 + k)) _ (bgW w (pa.1 15) (if nV tx len ((pa.1 12) + 1) = 99 then -1 else nI (nV tx len ((pa.1 12) + 1))) r41 r49) (pa.1 15) (e0) (by first | assumption | omega)) (cwV 0 hts gX1_readOneVersion_X3_finishVersion rfl rfl rfl ⟨rfl, hd_X3_finishVersion⟩ ⟨Nat.le_of_ble_eq_true rfl, Nat.le_of_ble_eq_true rfl⟩) hK hN hP hD hS hA [4, 5, 6, 7, 8, 9, 10, 11] rfl (by decide) rfl (fun _ => rfl) (fun _ => rfl) (fun _ => rfl) 0 3 rfl rfl rfl hl.1 rfl (Nat.le_of_ble_eq_true rfl) ⟨Nat.zero_le _, Nat.zero_le _⟩ dX1_readOneVersion_80 (fun u80 H locs hw80 hP hD hS => ?_)
            obtain rfl := hw80
            have hP : PP G (rv G h (oI q49 2 (nI (sk tx len b49 + 1))) (oI (bgW w (pa.1 15) (if nV tx len ((pa.1 12) + 1) = 99 then -1 else nI (nV tx len ((pa.1 12) + 1))) r41 r49) 0 (nI ((pa.1 15) + 1)))) H := hP
            have hD : va_D A (rv G h (oI q49 2 (nI (sk tx len b49 + 1))) (oI (bgW w (pa.1 15) (if nV tx len ((pa.1 12) + 1) = 99 then -1 else nI (nV tx len ((pa.1 12) + 1))) r41 r49) 0 (nI ((pa.1 15) + 1)))) := hD
            exact W.vret hx hb hr (fun t ht hW => ⟨⟨(oI q49 2 (nI (sk tx len b49 + 1)), oI (bgW w (pa.1 15) (if nV tx len ((pa.1 12) + 1) = 99 then -1 else nI (nV tx len ((pa.1 12) + 1))) r41 r49) 0 (nI ((pa.1 15) + 1))), rfl, by
                                        have HQ : vST tx len pa = (0, 0, vOK tx len pa (nV tx len (pa.1 12 + 1)) b49 r41 r49) := (vST_a n9 hf33 hc33).trans (by rw [hO41, vSb_0, hO49, vSc_0 hc56])
                                        exact Or.inl ⟨_, _, vOK tx len pa (nV tx len (pa.1 12 + 1)) b49 r41 r49, rfl, by repeat (first | exact rel.refl _ | exact rel.mono (by assumption) (by decide) (by decide) | refine rel.I (by decide) ?_ | refine rel.A (by decide) ?_ | refine rel.trans ?_ (rel.mono (by assumption) (by decide) (by decide))), HQ, ⟨(hR49.1 1 (by decide)).trans ((hR41.1 1 (by decide)).trans ((hR33.1 1 (by decide)).trans (e1))), rfl, (hR49.1 8 (by decide)).trans ((hR41.1 8 (by decide)).trans ((hR33.1 8 (by decide)).trans (e8))), rfl, e5, ⟨q240, (show sk tx len b49 + 1 ≤ len by omega), (show (pa.1 15) + 1 ≤ 24 by omega), (show pa.1 19 ≤ 120 by omega), (show pa.1 23 ≤ sk tx len b49 + 1 by omega), (by show parOK (upd (pa.2 16) (pa.1 15) (if (nV tx len (pa.1 12 + 1)) = 99 then -1 else nI (nV tx len (pa.1 12 + 1)))) (pa.1 15 + 1); exact parOK_upd qpar (by by_cases e9 : (nV tx len (pa.1 12 + 1)) = 99; exact Or.inl (if_pos e9); exact Or.inr ⟨(nV tx len (pa.1 12 + 1)), by omega, if_neg e9⟩))⟩, RwC_v hrw (parRw hrw.1 qpar) (by omega) hc33 ((hR49.2 7 (by decide)).trans ((hR41.2 7 (by decide)).trans (hR33.2 7 (by decide)))) ((hR49.2 6 (by decide)).trans ((hR41.2 6 (by decide)).trans (hR33.2 6 (by decide))))⟩, (show pa.1 12 < sk tx len b49 + 1 by omega), hPb, (show pa.1 23 ≤ 48 by omega)⟩, show PP G (rv G h (oI q49 2 (nI (sk tx len b49 + 1))) (oI (bgW w (pa.1 15) (if nV tx len ((pa.1 12) + 1) = 99 then -1 else nI (nV tx len ((pa.1 12) + 1))) r41 r49) 0 (nI ((pa.1 15) + 1)))) t.heap by rw [ht]; exact hP⟩, hS.F ht⟩) hS.2.2 dX1_readOneVersion_83
          · skip
            have hP : PP G (rv G h (oI (oI (oI q49 2 (nI (sk tx len b49))) 4 (nI 1)) 5 (nI (sk tx len b49))) w) H := hP
            have hD : va_D A (rv G h (oI (oI (oI q49 2 (nI (sk tx len b49))) 4 (nI 1)) 5 (nI (sk tx len b49))) w) := hD
            have hge56 : b49 ≤ sk tx len b49 := rn_ge _
            have hle56 : sk tx len b49 ≤ len := rn_le (by omega)
            refine lv_aload_n hx hb dX1_readOneVersion_59 rfl (lv_at hl 3 rfl) ?_
            refine va_get (D := gD G) (ci := 1) (v := .int (nI 1)) (C := RX1) (T := TX1) (N := 10) hx hb hts hiX1 hown hK hP 0 rfl rfl 4 (by decide) k25 (fun _ h9 => h9) rfl dX1_readOneVersion_60 ?_
            refine lv_if_ne (tgt := 83) hx hb dX1_readOneVersion_63 (by decide) (fun _ => ?_) (fun c9 => absurd c9 (by decide))
            exact W.vret hx hb hr (fun t ht hW => ⟨⟨(oI (oI (oI q49 2 (nI (sk tx len b49))) 4 (nI 1)) 5 (nI (sk tx len b49)), w), rfl, Or.inr ⟨_, _, 1, (sk tx len b49), pa, rfl, by repeat (first | exact rel.refl _ | exact rel.mono (by assumption) (by decide) (by decide) | refine rel.I (by decide) ?_ | refine rel.A (by decide) ?_ | refine rel.trans ?_ (rel.mono (by assumption) (by decide) (by decide))), (vST_a n9 hf33 hc33).trans (by rw [hO41, vSb_0, hO49, vSc_1 hc56]), by omega, by omega, rfl, rfl, ⟨sk tx len b49, pa.1 23, pa.1 15, pa.1 19, rfl, by omega, (hR49.1 8 (by decide)).trans ((hR41.1 8 (by decide)).trans ((hR33.1 8 (by decide)).trans (e8))), by omega, e0, by omega, e5, by omega⟩⟩, show PP G (rv G h (oI (oI (oI q49 2 (nI (sk tx len b49))) 4 (nI 1)) 5 (nI (sk tx len b49))) w) t.heap by rw [ht]; exact hP⟩, hS.F ht⟩) hS.2.2 dX1_readOneVersion_83
        · skip
          have hP : PP G (rv G h q49 w) H := hP
          have hD : va_D A (rv G h q49 w) := hD
          have htx49 : rwE (q49.2 0) tx len := by rw [hR49.2 0 (by decide)]; exact (htx41)
          refine lv_istore_n (lv' := [(3, .int r49), (2, .int r41), (1, .int (if nV tx len ((pa.1 12) + 1) = 99 then -1 else nI (nV tx len ((pa.1 12) + 1)))), (0, .ref (h 0))]) hx hb dX1_readOneVersion_52 rfl hl (by decide) rfl (fun ls hl => ?_)
          refine lv_aload_n hx hb dX1_readOneVersion_53 rfl (lv_at hl 3 rfl) ?_
          refine lv_bipush (v := nI 59) hx hb dX1_readOneVersion_54 (by decide) ?_
          refine cXv (As := [.int (nI 59)]) (rest := []) (S := oS × oS) (wa := rv G h q49 w) (w1 := fun v => rv G h v.1 v.2) ⟨hx, hb, hml, hown, hts⟩ (mt_X1_expect1 l G h _ q49 w len b49 f49 tx (nI 59) ((hR49.1 1 (by decide)).trans ((hR41.1 1 (by decide)).trans ((hR33.1 1 (by decide)).trans (e1)))) (hb49) (e449) (by first | assumption | omega) (by first | assumption | omega) (htx49) (by first | assumption | omega) (by first | assumption | omega) (by decide)) (cwV 1 hts gX1_readOneVersion_X1_expect rfl rfl rfl ⟨rfl, hd_X1_expect⟩ ⟨Nat.le_of_ble_eq_true rfl, Nat.le_of_ble_eq_true rfl⟩) hK hN hP hD hS hA (fun _ => rfl) 0 1 rfl rfl rfl hl.1 rfl (Nat.le_of_ble_eq_true rfl) ⟨Nat.zero_le _, Nat.zero_le _⟩ dX1_readOneVersion_56 (fun u56 H locs hw56 hP hD hS => ?_)
          obtain rfl := hw56
          have hP : PP G (rv G h (oI q49 2 (nI (sk tx len b49))) w) H := hP
          have hD : va_D A (rv G h (oI q49 2 (nI (sk tx len b49))) w) := hD
          have hge56 : b49 ≤ sk tx len b49 := rn_ge _
          have hle56 : sk tx len b49 ≤ len := rn_le (by omega)
          refine lv_aload_n hx hb dX1_readOneVersion_59 rfl (lv_at hl 3 rfl) ?_
          refine va_get (D := gD G) (ci := 1) (v := .int (q49.1 4)) (C := RX1) (T := TX1) (N := 10) hx hb hts hiX1 hown hK hP 0 rfl rfl 4 (by decide) k25 (fun _ h9 => h9) rfl dX1_readOneVersion_60 ?_
          refine topE e449 ?_
          refine lv_if_ne (tgt := 83) hx hb dX1_readOneVersion_63 (by decide) (fun c63 => ?_) (fun c63 => ?_)
          · skip
            have n63 : ¬ (f49 = 0) := fun q9 => c63 ((nI_eq (a := f49) (b := 0) (by omega) (by omega)).mpr q9)
            exact W.vret hx hb hr (fun t ht hW => ⟨⟨(oI q49 2 (nI (sk tx len b49)), w), rfl, Or.inr ⟨_, _, f49, p49, pa, rfl, by repeat (first | exact rel.refl _ | exact rel.mono (by assumption) (by decide) (by decide) | refine rel.I (by decide) ?_ | refine rel.A (by decide) ?_ | refine rel.trans ?_ (rel.mono (by assumption) (by decide) (by decide))), (vST_a n9 hf33 hc33).trans (by rw [hO41, vSb_0, hO49, vSc_f (by omega)]), by omega, by omega, e449, e549, ⟨sk tx len b49, pa.1 23, pa.1 15, pa.1 19, rfl, by omega, (hR49.1 8 (by decide)).trans ((hR41.1 8 (by decide)).trans ((hR33.1 8 (by decide)).trans (e8))), by omega, e0, by omega, e5, by omega⟩⟩, show PP G (rv G h (oI q49 2 (nI (sk tx len b49))) w) t.heap by rw [ht]; exact hP⟩, hS.F ht⟩) hS.2.2 dX1_readOneVersion_83
          · skip
            have n63 : f49 = 0 := (nI_eq (a := f49) (b := 0) (by omega) (by omega)).mp c63
            omega
      · skip
        have hP : PP G (rv G h q41 w) H := hP
        have hD : va_D A (rv G h q41 w) := hD
        have htx41 : rwE (q41.2 0) tx len := by rw [hR41.2 0 (by decide)]; exact (htx33)
        refine lv_istore_n (lv' := [(2, .int r41), (1, .int (if nV tx len ((pa.1 12) + 1) = 99 then -1 else nI (nV tx len ((pa.1 12) + 1)))), (0, .ref (h 0))]) hx hb dX1_readOneVersion_44 rfl hl (by decide) rfl (fun ls hl => ?_)
        refine lv_aload_n hx hb dX1_readOneVersion_45 rfl (lv_at hl 2 rfl) ?_
        refine lv_bipush (v := nI 45) hx hb dX1_readOneVersion_46 (by decide) ?_
        refine lv_iload_n hx hb dX1_readOneVersion_48 rfl (lv_at hl 0 rfl) ?_
        refine cXi (As := [.int (nI 45), .int r41]) (rest := []) (S := oS × oS) (wa := rv G h q41 w) (w1 := fun v => rv G h v.1 v.2) ⟨hx, hb, hml, hown, hts⟩ (mt_X1_readOthers1 l G h _ q41 w len b41 f41 tx (nI 45) r41 ((hR41.1 1 (by decide)).trans ((hR33.1 1 (by decide)).trans (e1))) (hb41) (e441) (by first | assumption | omega) (by first | assumption | omega) (htx41) (by first | assumption | omega) (by first | assumption | omega) (by decide)) (cwV 2 hts gX1_readOneVersion_X1_readOthers rfl rfl rfl ⟨rfl, hd_X1_readOthers⟩ ⟨Nat.le_of_ble_eq_true rfl, Nat.le_of_ble_eq_true rfl⟩) hK hN hP hD hS hA (fun _ => rfl) 0 1 rfl rfl rfl hl.1 rfl (Nat.le_of_ble_eq_true rfl) ⟨Nat.zero_le _, Nat.zero_le _⟩ dX1_readOneVersion_49 (fun r49 u49 H locs hw49 hP hD hS => ?_)
        obtain rfl := hw49
        have hP : PP G (rv G h (oI q41 2 (nI (sk tx len b41))) w) H := hP
        have hD : va_D A (rv G h (oI q41 2 (nI (sk tx len b41))) w) := hD
        have hge49 : b41 ≤ sk tx len b41 := rn_ge _
        have hle49 : sk tx len b41 ≤ len := rn_le (by omega)
        refine lv_istore_n (lv' := [(3, .int r49), (2, .int r41), (1, .int (if nV tx len ((pa.1 12) + 1) = 99 then -1 else nI (nV tx len ((pa.1 12) + 1)))), (0, .ref (h 0))]) hx hb dX1_readOneVersion_52 rfl hl (by decide) rfl (fun ls hl => ?_)
        refine lv_aload_n hx hb dX1_readOneVersion_53 rfl (lv_at hl 3 rfl) ?_
        refine lv_bipush (v := nI 59) hx hb dX1_readOneVersion_54 (by decide) ?_
        refine cXv (As := [.int (nI 59)]) (rest := []) (S := oS × oS) (wa := rv G h (oI q41 2 (nI (sk tx len b41))) w) (w1 := fun v => rv G h v.1 v.2) ⟨hx, hb, hml, hown, hts⟩ (mt_X1_expect1 l G h _ (oI q41 2 (nI (sk tx len b41))) w len (sk tx len b41) f41 tx (nI 59) ((hR41.1 1 (by decide)).trans ((hR33.1 1 (by decide)).trans (e1))) (rfl) (e441) (by first | assumption | omega) (by first | assumption | omega) (htx41) (by first | assumption | omega) (by first | assumption | omega) (by decide)) (cwV 1 hts gX1_readOneVersion_X1_expect rfl rfl rfl ⟨rfl, hd_X1_expect⟩ ⟨Nat.le_of_ble_eq_true rfl, Nat.le_of_ble_eq_true rfl⟩) hK hN hP hD hS hA (fun _ => rfl) 0 1 rfl rfl rfl hl.1 rfl (Nat.le_of_ble_eq_true rfl) ⟨Nat.zero_le _, Nat.zero_le _⟩ dX1_readOneVersion_56 (fun u56 H locs hw56 hP hD hS => ?_)
        obtain rfl := hw56
        have hP : PP G (rv G h (oI (oI q41 2 (nI (sk tx len b41))) 2 (nI (sk tx len (sk tx len b41)))) w) H := hP
        have hD : va_D A (rv G h (oI (oI q41 2 (nI (sk tx len b41))) 2 (nI (sk tx len (sk tx len b41)))) w) := hD
        have hge56 : (sk tx len b41) ≤ sk tx len (sk tx len b41) := rn_ge _
        have hle56 : sk tx len (sk tx len b41) ≤ len := rn_le (by omega)
        refine lv_aload_n hx hb dX1_readOneVersion_59 rfl (lv_at hl 3 rfl) ?_
        refine va_get (D := gD G) (ci := 1) (v := .int (q41.1 4)) (C := RX1) (T := TX1) (N := 10) hx hb hts hiX1 hown hK hP 0 rfl rfl 4 (by decide) k25 (fun _ h9 => h9) rfl dX1_readOneVersion_60 ?_
        refine topE e441 ?_
        refine lv_if_ne (tgt := 83) hx hb dX1_readOneVersion_63 (by decide) (fun c63 => ?_) (fun c63 => ?_)
        · skip
          have n63 : ¬ (f41 = 0) := fun q9 => c63 ((nI_eq (a := f41) (b := 0) (by omega) (by omega)).mpr q9)
          exact W.vret hx hb hr (fun t ht hW => ⟨⟨(oI (oI q41 2 (nI (sk tx len b41))) 2 (nI (sk tx len (sk tx len b41))), w), rfl, Or.inr ⟨_, _, f41, p41, pa, rfl, by repeat (first | exact rel.refl _ | exact rel.mono (by assumption) (by decide) (by decide) | refine rel.I (by decide) ?_ | refine rel.A (by decide) ?_ | refine rel.trans ?_ (rel.mono (by assumption) (by decide) (by decide))), (vST_a n9 hf33 hc33).trans (by rw [hO41, vSb_f (by omega)]), by omega, by omega, e441, e541, ⟨sk tx len (sk tx len b41), pa.1 23, pa.1 15, pa.1 19, rfl, by omega, (hR41.1 8 (by decide)).trans ((hR33.1 8 (by decide)).trans (e8)), by omega, e0, by omega, e5, by omega⟩⟩, show PP G (rv G h (oI (oI q41 2 (nI (sk tx len b41))) 2 (nI (sk tx len (sk tx len b41)))) w) t.heap by rw [ht]; exact hP⟩, hS.F ht⟩) hS.2.2 dX1_readOneVersion_83
        · skip
          have n63 : f41 = 0 := (nI_eq (a := f41) (b := 0) (by omega) (by omega)).mp c63
          omega
    · skip
      have hP : PP G (rv G h q33 w) H := hP
      have hD : va_D A (rv G h q33 w) := hD
      have htx33 : rwE (q33.2 0) tx len := by rw [hR33.2 0 (by decide)]; exact (htx)
      have hEg33 : ((pa.1 12) + 1) ≤ nE tx len ((pa.1 12) + 1) := nE_ge _ _ _
      have hEl33 : nE tx len ((pa.1 12) + 1) ≤ len := nE_le (by omega)
      refine lv_istore_n (lv' := [(1, .int r33), (0, .ref (h 0))]) hx hb dX1_readOneVersion_36 rfl hl (by decide) rfl (fun ls hl => ?_)
      refine lv_aload_n hx hb dX1_readOneVersion_37 rfl (lv_at hl 1 rfl) ?_
      refine lv_bipush (v := nI 43) hx hb dX1_readOneVersion_38 (by decide) ?_
      refine lv_iconst (v := nI 0) hx hb dX1_readOneVersion_40 (by decide) ?_
      refine cXi (As := [.int (nI 43), .int (nI 0)]) (rest := []) (S := oS × oS) (wa := rv G h q33 w) (w1 := fun v => rv G h v.1 v.2) ⟨hx, hb, hml, hown, hts⟩ (mt_X1_readOthers1 l G h _ q33 w len (nE tx len ((pa.1 12) + 1)) f33 tx (nI 43) (nI 0) ((hR33.1 1 (by decide)).trans (e1)) (hb33) (e433) (by first | assumption | omega) (by first | assumption | omega) (htx33) (by first | assumption | omega) (by first | assumption | omega) (by decide)) (cwV 2 hts gX1_readOneVersion_X1_readOthers rfl rfl rfl ⟨rfl, hd_X1_readOthers⟩ ⟨Nat.le_of_ble_eq_true rfl, Nat.le_of_ble_eq_true rfl⟩) hK hN hP hD hS hA (fun _ => rfl) 0 1 rfl rfl rfl hl.1 rfl (Nat.le_of_ble_eq_true rfl) ⟨Nat.zero_le _, Nat.zero_le _⟩ dX1_readOneVersion_41 (fun r41 u41 H locs hw41 hP hD hS => ?_)
      obtain rfl := hw41
      have hP : PP G (rv G h (oI q33 2 (nI (sk tx len (nE tx len ((pa.1 12) + 1))))) w) H := hP
      have hD : va_D A (rv G h (oI q33 2 (nI (sk tx len (nE tx len ((pa.1 12) + 1))))) w) := hD
      have hge41 : (nE tx len ((pa.1 12) + 1)) ≤ sk tx len (nE tx len ((pa.1 12) + 1)) := rn_ge _
      have hle41 : sk tx len (nE tx len ((pa.1 12) + 1)) ≤ len := rn_le (by omega)
      refine lv_istore_n (lv' := [(2, .int r41), (1, .int r33), (0, .ref (h 0))]) hx hb dX1_readOneVersion_44 rfl hl (by decide) rfl (fun ls hl => ?_)
      refine lv_aload_n hx hb dX1_readOneVersion_45 rfl (lv_at hl 2 rfl) ?_
      refine lv_bipush (v := nI 45) hx hb dX1_readOneVersion_46 (by decide) ?_
      refine lv_iload_n hx hb dX1_readOneVersion_48 rfl (lv_at hl 0 rfl) ?_
      refine cXi (As := [.int (nI 45), .int r41]) (rest := []) (S := oS × oS) (wa := rv G h (oI q33 2 (nI (sk tx len (nE tx len ((pa.1 12) + 1))))) w) (w1 := fun v => rv G h v.1 v.2) ⟨hx, hb, hml, hown, hts⟩ (mt_X1_readOthers1 l G h _ (oI q33 2 (nI (sk tx len (nE tx len ((pa.1 12) + 1))))) w len (sk tx len (nE tx len ((pa.1 12) + 1))) f33 tx (nI 45) r41 ((hR33.1 1 (by decide)).trans (e1)) (rfl) (e433) (by first | assumption | omega) (by first | assumption | omega) (htx33) (by first | assumption | omega) (by first | assumption | omega) (by decide)) (cwV 2 hts gX1_readOneVersion_X1_readOthers rfl rfl rfl ⟨rfl, hd_X1_readOthers⟩ ⟨Nat.le_of_ble_eq_true rfl, Nat.le_of_ble_eq_true rfl⟩) hK hN hP hD hS hA (fun _ => rfl) 0 1 rfl rfl rfl hl.1 rfl (Nat.le_of_ble_eq_true rfl) ⟨Nat.zero_le _, Nat.zero_le _⟩ dX1_readOneVersion_49 (fun r49 u49 H locs hw49 hP hD hS => ?_)
      obtain rfl := hw49
      have hP : PP G (rv G h (oI (oI q33 2 (nI (sk tx len (nE tx len ((pa.1 12) + 1))))) 2 (nI (sk tx len (sk tx len (nE tx len ((pa.1 12) + 1)))))) w) H := hP
      have hD : va_D A (rv G h (oI (oI q33 2 (nI (sk tx len (nE tx len ((pa.1 12) + 1))))) 2 (nI (sk tx len (sk tx len (nE tx len ((pa.1 12) + 1)))))) w) := hD
      have hge49 : (sk tx len (nE tx len ((pa.1 12) + 1))) ≤ sk tx len (sk tx len (nE tx len ((pa.1 12) + 1))) := rn_ge _
      have hle49 : sk tx len (sk tx len (nE tx len ((pa.1 12) + 1))) ≤ len := rn_le (by omega)
      refine lv_istore_n (lv' := [(3, .int r49), (2, .int r41), (1, .int r33), (0, .ref (h 0))]) hx hb dX1_readOneVersion_52 rfl hl (by decide) rfl (fun ls hl => ?_)
      refine lv_aload_n hx hb dX1_readOneVersion_53 rfl (lv_at hl 3 rfl) ?_
      refine lv_bipush (v := nI 59) hx hb dX1_readOneVersion_54 (by decide) ?_
      refine cXv (As := [.int (nI 59)]) (rest := []) (S := oS × oS) (wa := rv G h (oI (oI q33 2 (nI (sk tx len (nE tx len ((pa.1 12) + 1))))) 2 (nI (sk tx len (sk tx len (nE tx len ((pa.1 12) + 1)))))) w) (w1 := fun v => rv G h v.1 v.2) ⟨hx, hb, hml, hown, hts⟩ (mt_X1_expect1 l G h _ (oI (oI q33 2 (nI (sk tx len (nE tx len ((pa.1 12) + 1))))) 2 (nI (sk tx len (sk tx len (nE tx len ((pa.1 12) + 1)))))) w len (sk tx len (sk tx len (nE tx len ((pa.1 12) + 1)))) f33 tx (nI 59) ((hR33.1 1 (by decide)).trans (e1)) (rfl) (e433) (by first | assumption | omega) (by first | assumption | omega) (htx33) (by first | assumption | omega) (by first | assumption | omega) (by decide)) (cwV 1 hts gX1_readOneVersion_X1_expect rfl rfl rfl ⟨rfl, hd_X1_expect⟩ ⟨Nat.le_of_ble_eq_true rfl, Nat.le_of_ble_eq_true rfl⟩) hK hN hP hD hS hA (fun _ => rfl) 0 1 rfl rfl rfl hl.1 rfl (Nat.le_of_ble_eq_true rfl) ⟨Nat.zero_le _, Nat.zero_le _⟩ dX1_readOneVersion_56 (fun u56 H locs hw56 hP hD hS => ?_)
      obtain rfl := hw56
      have hP : PP G (rv G h (oI (oI (oI q33 2 (nI (sk tx len (nE tx len ((pa.1 12) + 1))))) 2 (nI (sk tx len (sk tx len (nE tx len ((pa.1 12) + 1)))))) 2 (nI (sk tx len (sk tx len (sk tx len (nE tx len ((pa.1 12) + 1))))))) w) H := hP
      have hD : va_D A (rv G h (oI (oI (oI q33 2 (nI (sk tx len (nE tx len ((pa.1 12) + 1))))) 2 (nI (sk tx len (sk tx len (nE tx len ((pa.1 12) + 1)))))) 2 (nI (sk tx len (sk tx len (sk tx len (nE tx len ((pa.1 12) + 1))))))) w) := hD
      have hge56 : (sk tx len (sk tx len (nE tx len ((pa.1 12) + 1)))) ≤ sk tx len (sk tx len (sk tx len (nE tx len ((pa.1 12) + 1)))) := rn_ge _
      have hle56 : sk tx len (sk tx len (sk tx len (nE tx len ((pa.1 12) + 1)))) ≤ len := rn_le (by omega)
      refine lv_aload_n hx hb dX1_readOneVersion_59 rfl (lv_at hl 3 rfl) ?_
      refine va_get (D := gD G) (ci := 1) (v := .int (q33.1 4)) (C := RX1) (T := TX1) (N := 10) hx hb hts hiX1 hown hK hP 0 rfl rfl 4 (by decide) k25 (fun _ h9 => h9) rfl dX1_readOneVersion_60 ?_
      refine topE e433 ?_
      refine lv_if_ne (tgt := 83) hx hb dX1_readOneVersion_63 (by decide) (fun c63 => ?_) (fun c63 => ?_)
      · skip
        have n63 : ¬ (f33 = 0) := fun q9 => c63 ((nI_eq (a := f33) (b := 0) (by omega) (by omega)).mpr q9)
        exact W.vret hx hb hr (fun t ht hW => ⟨⟨(oI (oI (oI q33 2 (nI (sk tx len (nE tx len ((pa.1 12) + 1))))) 2 (nI (sk tx len (sk tx len (nE tx len ((pa.1 12) + 1)))))) 2 (nI (sk tx len (sk tx len (sk tx len (nE tx len ((pa.1 12) + 1)))))), w), rfl, by rcases hc33 with h9 | ⟨h9, h10, h11, h12⟩; exact Or.inr ⟨_, _, f33, (sk tx len (pa.1 12 + 1)), pa, rfl, by repeat (first | exact rel.refl _ | exact rel.mono (by assumption) (by decide) (by decide) | refine rel.I (by decide) ?_ | refine rel.A (by decide) ?_ | refine rel.trans ?_ (rel.mono (by assumption) (by decide) (by decide))), (vST_n n9 (by omega)).trans (by rw [h9]), by omega, by omega, e433, e533, ⟨sk tx len (sk tx len (sk tx len (nE tx len ((pa.1 12) + 1)))), pa.1 23, pa.1 15, pa.1 19, rfl, by omega, (hR33.1 8 (by decide)).trans (e8), by omega, e0, by omega, e5, by omega⟩⟩; exact Or.inr ⟨_, _, f33, (sk tx len (pa.1 12 + 1)), pa, rfl, by repeat (first | exact rel.refl _ | exact rel.mono (by assumption) (by decide) (by decide) | refine rel.I (by decide) ?_ | refine rel.A (by decide) ?_ | refine rel.trans ?_ (rel.mono (by assumption) (by decide) (by decide))), (vST_p n9 h9 h11 h12).trans (by rw [h10]), by omega, by omega, e433, e533, ⟨sk tx len (sk tx len (sk tx len (nE tx len ((pa.1 12) + 1)))), pa.1 23, pa.1 15, pa.1 19, rfl, by omega, (hR33.1 8 (by decide)).trans (e8), by omega, e0, by omega, e5, by omega⟩⟩, show PP G (rv G h (oI (oI (oI q33 2 (nI (sk tx len (nE tx len ((pa.1 12) + 1))))) 2 (nI (sk tx len (sk tx len (nE tx len ((pa.1 12) + 1)))))) 2 (nI (sk tx len (sk tx len (sk tx len (nE tx len ((pa.1 12) + 1))))))) w) t.heap by rw [ht]; exact hP⟩, hS.F ht⟩) hS.2.2 dX1_readOneVersion_83
      · skip
        have n63 : f33 = 0 := (nI_eq (a := f33) (b := 0) (by omega) (by omega)).mp c63
        omega
  · skip
    have n9 : ¬ ((pa.1 15) < 24) := fun q9 => c9 ((nI_ltI (a := pa.1 15) (b := 24) (by omega) (by omega)).mpr q9)
    refine lv_aload_n hx hb dX1_readOneVersion_12 rfl (lv_at hl 0 rfl) ?_
    refine lv_iconst (v := nI 3) hx hb dX1_readOneVersion_13 (by decide) ?_
    refine lv_aload_n hx hb dX1_readOneVersion_14 rfl (lv_at hl 0 rfl) ?_
    refine va_get (D := gD G) (ci := 1) (v := .int (rd.1 2)) (C := RX1) (T := TX1) (N := 10) hx hb hts hiX1 hown hK hP 0 rfl rfl 2 (by decide) k19 (fun _ h9 => h9) rfl dX1_readOneVersion_15 ?_
    refine topE e2 ?_
    refine cXv (As := [.int (nI 3), .int (nI (pa.1 12))]) (rest := []) (S := oS × oS) (wa := rv G h rd w) (w1 := fun v => rv G h v.1 v.2) ⟨hx, hb, hml, hown, hts⟩ (mt_X1_fail0 l G h _ rd w (nI 3) (nI (pa.1 12)) (h40)) (cwV 2 hts gX1_readOneVersion_X1_fail rfl rfl rfl ⟨rfl, hd_X1_fail⟩ ⟨Nat.le_of_ble_eq_true rfl, Nat.le_of_ble_eq_true rfl⟩) hK hN hP hD hS hA (fun _ => rfl) 0 1 rfl rfl rfl hl.1 rfl (Nat.le_of_ble_eq_true rfl) ⟨Nat.zero_le _, Nat.zero_le _⟩ dX1_readOneVersion_18 (fun u18 H locs hw18 hP hD hS => ?_)
    obtain rfl := hw18
    have hP : PP G (rv G h (oI (oI rd 4 (nI 3)) 5 (nI (pa.1 12))) w) H := hP
    have hD : va_D A (rv G h (oI (oI rd 4 (nI 3)) 5 (nI (pa.1 12))) w) := hD
    exact W.vret hx hb hr (fun t ht hW => ⟨⟨(oI (oI rd 4 (nI 3)) 5 (nI (pa.1 12)), w), rfl, Or.inr ⟨_, _, 3, (pa.1 12), pa, rfl, by repeat (first | exact rel.refl _ | exact rel.mono (by assumption) (by decide) (by decide) | refine rel.I (by decide) ?_ | refine rel.A (by decide) ?_ | refine rel.trans ?_ (rel.mono (by assumption) (by decide) (by decide))), vST_3 (by omega), by omega, by omega, rfl, rfl, ⟨pa.1 12, pa.1 23, pa.1 15, pa.1 19, e2, by omega, e8, by omega, e0, by omega, e5, by omega⟩⟩, show PP G (rv G h (oI (oI rd 4 (nI 3)) 5 (nI (pa.1 12))) w) t.heap by rw [ht]; exact hP⟩, hS.F ht⟩) hS.2.2 dX1_readOneVersion_21
set_option maxHeartbeats 1000000 in
set_option maxRecDepth 100000 in
theorem mt_X1_readAll (l : Launch) (G : gG) (h : Nat → Nat) (sz : Nat) (rd : oS) (w : oS) (len : Nat) (tx : Nat → Int32) (hlen : rd.1 1 = nI len) (hl240 : len ≤ 240) (htx : rwE (rd.2 0) tx len) (hlet : ∀ i, i < len → ∃ j, j ≤ 255 ∧ tx i = nI j) : Met l yX1_readAll wsX1_readAll ({ frames := 5, cells := 0, slots := 0, locals := 117 }) (preW G (rv G h rd w) sz [.ref (h 0)]) (va_Qi (fun (r : Int32) (v : oS × oS) => ∃ q p res, v = (q, p) ∧ pEv tx len true s0 res ∧ q.1 1 = nI 0 ∧ q.1 4 = nI res.1 ∧ r = nI res.1 ∧ (∃ n m, p.1 0 = nI n ∧ n ≤ 24 ∧ p.1 5 = nI m ∧ m ≤ 120) ∧ (¬ res.1 = 0 → q.1 5 = nI res.2.1) ∧ (res.1 = 0 → q.1 5 = -1 ∧ WovC p res.2.2) ∧ res.1 ≤ 4) (fun v t => PP G (rv G h v.1 v.2) t.heap) (va_A (rv G h rd w) sz)) 0 0 (va_A (rv G h rd w) sz) := by
  refine Met.ofW (cc := cX1_readAll) (maxL := 2) (ret := (some .int)) (by decide) rfl ?_
  intro p e s m args below meth c s₁ B hml hv
  obtain ⟨ha, hsz, hP, hK, hN, hD0⟩ := hv
  subst ha
  have hx := B.exec
  have hb := B.bytes
  have hr := B.returns
  have hts := atoms_spec (ws := wsX1_readAll) B.pre
  have hown : s.vm.findClass RX1 = some m.cls := findClass_of_methodNamed B.named
  have hlocks := B.notSynchronized
  subst hsz
  have hD := hD0.self (sz := s.heap.size)
  generalize hAe : va_A (rv G h rd w) s.heap.size = A at hD ⊢
  have hA : ∀ q : Nat, s.heap.size ≤ q → A q := fun q h => by rw [← hAe]; exact Or.inr h
  clear hAe hD0
  have hS : va_S A s.heap s.heap [] := va_S.rf
  have hiX1 : ∀ w ∈ wsX10, w ∈ wsX1_readAll := fun w h9 => List.mem_cons_of_mem _ (List.mem_append_left _ (List.mem_append_right _ (h9)))
  have k19 := hts (.fieldLink RX1 19 "WovenHistory$Reader" "at" "I") (List.mem_of_getElem? (i := 1) rfl)
  have k38 := hts (.fieldLink RX1 38 "WovenHistory$Reader" "depth" "I") (List.mem_of_getElem? (i := 2) rfl)
  have k25 := hts (.fieldLink RX1 25 "WovenHistory$Reader" "faultNumber" "I") (List.mem_of_getElem? (i := 3) rfl)
  have k28 := hts (.fieldLink RX1 28 "WovenHistory$Reader" "faultAt" "I") (List.mem_of_getElem? (i := 4) rfl)
  have k44 := hts (.fieldLink RX1 44 "WovenHistory$Reader" "woven" "LWovenHistory$Weave;") (List.mem_of_getElem? (i := 5) rfl)
  have k15 := hts (.fieldLink RX1 15 "WovenHistory$Reader" "length" "I") (List.mem_of_getElem? (i := 6) rfl)
  have hl := lv_entry ([.ref (h 0)]) (n := 2) (Nat.le_of_ble_eq_true rfl)
  rw [lg_entry_eq]
  generalize (lg_sl ([.ref (h 0)]) ++ List.replicate (2 - (lg_sl ([.ref (h 0)])).length) Slot.unset).toArray = ls at hl ⊢
  have hl : lv_has ls 2 [(0, .ref (h 0))] := hl
  refine lv_aload_n hx hb dX1_readAll_0 rfl (lv_at hl 0 rfl) ?_
  refine lv_iconst (v := nI 0) hx hb dX1_readAll_1 (by decide) ?_
  refine va_put (D := gD G) (ci := 1) (v := .int (nI 0)) (ty := .int) (C := RX1) (T := TX1) (N := 10) hx hb hts hiX1 tyX1 tyX1_ok nmX1 hown hK hP hD hS 0 rfl rfl 2 (by decide) k19 (fun _ h9 => h9) rfl (tyX1_ok 2 (by decide)) (rfl) (rfl) (Nat.le_of_ble_eq_true rfl) dX1_readAll_2 (fun H locs hP hD hS => ?_)
  have hP : PP G (rv G h (oI rd 2 (nI 0)) w) H := hP
  have hD : va_D A (rv G h (oI rd 2 (nI 0)) w) := hD
  refine lv_aload_n hx hb dX1_readAll_5 rfl (lv_at hl 0 rfl) ?_
  refine lv_iconst (v := nI 0) hx hb dX1_readAll_6 (by decide) ?_
  refine va_put (D := gD G) (ci := 1) (v := .int (nI 0)) (ty := .int) (C := RX1) (T := TX1) (N := 10) hx hb hts hiX1 tyX1 tyX1_ok nmX1 hown hK hP hD hS 0 rfl rfl 8 (by decide) k38 (fun _ h9 => h9) rfl (tyX1_ok 8 (by decide)) (rfl) (rfl) (Nat.le_of_ble_eq_true rfl) dX1_readAll_7 (fun H locs hP hD hS => ?_)
  have hP : PP G (rv G h (oI (oI rd 2 (nI 0)) 8 (nI 0)) w) H := hP
  have hD : va_D A (rv G h (oI (oI rd 2 (nI 0)) 8 (nI 0)) w) := hD
  refine lv_aload_n hx hb dX1_readAll_10 rfl (lv_at hl 0 rfl) ?_
  refine lv_iconst (v := nI 0) hx hb dX1_readAll_11 (by decide) ?_
  refine va_put (D := gD G) (ci := 1) (v := .int (nI 0)) (ty := .int) (C := RX1) (T := TX1) (N := 10) hx hb hts hiX1 tyX1 tyX1_ok nmX1 hown hK hP hD hS 0 rfl rfl 4 (by decide) k25 (fun _ h9 => h9) rfl (tyX1_ok 4 (by decide)) (rfl) (rfl) (Nat.le_of_ble_eq_true rfl) dX1_readAll_12 (fun H locs hP hD hS => ?_)
  have hP : PP G (rv G h (oI (oI (oI rd 2 (nI 0)) 8 (nI 0)) 4 (nI 0)) w) H := hP
  have hD : va_D A (rv G h (oI (oI (oI rd 2 (nI 0)) 8 (nI 0)) 4 (nI 0)) w) := hD
  refine lv_aload_n hx hb dX1_readAll_15 rfl (lv_at hl 0 rfl) ?_
  refine lv_iconst (v := (-1 : Int32)) hx hb dX1_readAll_16 (by decide) ?_
  refine va_put (D := gD G) (ci := 1) (v := .int (-1 : Int32)) (ty := .int) (C := RX1) (T := TX1) (N := 10) hx hb hts hiX1 tyX1 tyX1_ok nmX1 hown hK hP hD hS 0 rfl rfl 5 (by decide) k28 (fun _ h9 => h9) rfl (tyX1_ok 5 (by decide)) (rfl) (rfl) (Nat.le_of_ble_eq_true rfl) dX1_readAll_17 (fun H locs hP hD hS => ?_)
  have hP : PP G (rv G h (oI (oI (oI (oI rd 2 (nI 0)) 8 (nI 0)) 4 (nI 0)) 5 (-1 : Int32)) w) H := hP
  have hD : va_D A (rv G h (oI (oI (oI (oI rd 2 (nI 0)) 8 (nI 0)) 4 (nI 0)) 5 (-1 : Int32)) w) := hD
  refine lv_aload_n hx hb dX1_readAll_20 rfl (lv_at hl 0 rfl) ?_
  refine va_get (D := gD G) (ci := 1) (v := .ref (h 10)) (C := RX1) (T := TX1) (N := 10) hx hb hts hiX1 hown hK hP 0 rfl rfl 9 (by decide) k44 (fun _ h9 => h9) rfl dX1_readAll_21 ?_
  refine cWv (As := []) (rest := []) (S := oS) (wa := rv G h (oI (oI (oI (oI rd 2 (nI 0)) 8 (nI 0)) 4 (nI 0)) 5 (-1 : Int32)) w) (wc := wv G (fun k => h (10 + k)) w) (w1 := fun v => wv G (fun k => h (10 + k)) v) (wa' := fun v => rv G h (oI (oI (oI (oI rd 2 (nI 0)) 8 (nI 0)) 4 (nI 0)) 5 (-1 : Int32)) v) ⟨hx, hb, hml, hown, hts⟩ (mt_X3_makeEmpty l G (fun k => h (10 + k)) _ w) (cwV 0 hts gX1_readAll_X3_makeEmpty rfl rfl rfl ⟨rfl, hd_X3_makeEmpty⟩ ⟨Nat.le_of_ble_eq_true rfl, Nat.le_of_ble_eq_true rfl⟩) hK hN hP hD hS hA [4, 5, 6, 7, 8, 9, 10, 11] rfl (by decide) rfl (fun _ => rfl) (fun _ => rfl) (fun _ => rfl) 0 3 rfl rfl rfl hl.1 rfl (Nat.le_of_ble_eq_true rfl) ⟨Nat.zero_le _, Nat.zero_le _⟩ dX1_readAll_24 (fun u24 H locs hw24 hP hD hS => ?_)
  obtain rfl := hw24
  have hP : PP G (rv G h (oI (oI (oI (oI rd 2 (nI 0)) 8 (nI 0)) 4 (nI 0)) 5 (-1 : Int32)) (oI (oI w 0 (nI 0)) 5 (nI 0))) H := hP
  have hD : va_D A (rv G h (oI (oI (oI (oI rd 2 (nI 0)) 8 (nI 0)) 4 (nI 0)) 5 (-1 : Int32)) (oI (oI w 0 (nI 0)) 5 (nI 0))) := hD
  refine lv_iconst (v := nI 0) hx hb dX1_readAll_27 (by decide) ?_
  refine lv_istore_n (lv' := [(1, .int (nI 0)), (0, .ref (h 0))]) hx hb dX1_readAll_28 rfl hl (by decide) rfl (fun ls hl => ?_)
  have LP29 : ∀ (n29m : Nat), ∀ (k : Nat) (q : oS) (pw : oS) (s1 : pS) (fz : Nat) (b : Nat) (d : Nat) (n : Nat) (mq : Nat) (hk : k ≤ 25) (hR : rel [2, 3, 4, 5, 8] [6, 7] rd q) (hbq : q.1 2 = nI b) (hbn : b ≤ len) (hdq : q.1 8 = nI d) (hdn : d ≤ 48) (en : pw.1 0 = nI n) (hn : n ≤ 24) (em : pw.1 5 = nI mq) (hm : mq ≤ 120) (htx_q : rwE (q.2 0) tx len) (hbz : q.1 4 = nI fz) (hf4 : fz ≤ 4) (hF0 : fz = 0 → RSn q pw len s1 ∧ sk tx len b = sk tx len (s1.1 12) ∧ PIb (s1.2 24) (s1.2 25) (s1.1 23) ∧ s1.1 23 ≤ 48 ∧ q.1 5 = -1 ∧ (∀ res, pEv tx len true s1 res → pEv tx len true s0 res) ∧ s1.1 15 = k) (hF1 : ¬ fz = 0 → ∃ pl s2, pEv tx len true s0 (fz, pl, s2) ∧ q.1 5 = nI pl), (25 - k < n29m) → ∀ (H : Heap) (locs : List Loc) (ls : Array Slot), PP G (rv G h q pw) H → va_D A (rv G h q pw) → va_S A s.heap H locs → lv_has ls 2 [(0, .ref (h 0)), (1, .int (nI k))] → W p l e (headSpec wsX1_readAll ({ frames := 5, cells := 0, slots := 0, locals := 117 })).room s m ([.ref (h 0)] : List Value).toArray below meth c H locs 0 0 (MQ below (va_Qi (fun (r : Int32) (v : oS × oS) => ∃ q p res, v = (q, p) ∧ pEv tx len true s0 res ∧ q.1 1 = nI 0 ∧ q.1 4 = nI res.1 ∧ r = nI res.1 ∧ (∃ n m, p.1 0 = nI n ∧ n ≤ 24 ∧ p.1 5 = nI m ∧ m ≤ 120) ∧ (¬ res.1 = 0 → q.1 5 = nI res.2.1) ∧ (res.1 = 0 → q.1 5 = -1 ∧ WovC p res.2.2) ∧ res.1 ≤ 4) (fun v t => PP G (rv G h v.1 v.2) t.heap) A) ([.ref (h 0)] : List Value).toArray s 0 0 A) (F0 m 29 ls []) := by
    intro n29m
    induction n29m with
    | zero => intro k q pw s1 fz b d n mq hk hR hbq hbn hdq hdn en hn em hm htx_q hbz hf4 hF0 hF1 hmu H locs ls hP hD hS hl; exact absurd hmu (Nat.not_lt_zero _)
    | succ n29m ih29 =>
      intro k q pw s1 fz b d n mq hk hR hbq hbn hdq hdn en hn em hm htx_q hbz hf4 hF0 hF1 hmu H locs ls hP hD hS hl
      refine lv_iload_n hx hb dX1_readAll_29 rfl (lv_at hl 1 rfl) ?_
      refine lv_bipush (v := nI 24) hx hb dX1_readAll_30 (by decide) ?_
      refine lv_icmp_gt (tgt := 54) hx hb dX1_readAll_32 (by decide) (fun c32 => ?_) (fun c32 => ?_)
      · skip
        have n32 : 24 < k := (nI_ltI (a := 24) (b := k) (by omega) (by omega)).mp c32
        have hz : 0 < fz := by rcases Nat.eq_zero_or_pos fz with q9 | q9; exact absurd (hF0 q9).2.2.2.2.2.2 (by have := (hF0 q9).1.2.2.2.2.1.2.2.1; omega); exact q9
        refine lv_iconst (v := nI 0) hx hb dX1_readAll_54 (by decide) ?_
        refine lv_istore_n (lv' := [(1, .int (nI 0)), (0, .ref (h 0))]) hx hb dX1_readAll_55 rfl hl (by decide) rfl (fun ls hl => ?_)
        have LP56 : ∀ (n56m : Nat), ∀ (k : Nat) (q : oS) (pw : oS) (s1 : pS) (fz : Nat) (b : Nat) (d : Nat) (n : Nat) (mq : Nat) (hk : k ≤ b ∨ ¬ fz = 0) (hR : rel [2, 3, 4, 5, 8] [6, 7] rd q) (hbq : q.1 2 = nI b) (hbn : b ≤ len) (hdq : q.1 8 = nI d) (hdn : d ≤ 48) (en : pw.1 0 = nI n) (hn : n ≤ 24) (em : pw.1 5 = nI mq) (hm : mq ≤ 120) (htx_q : rwE (q.2 0) tx len) (hbz : q.1 4 = nI fz) (hf4 : fz ≤ 4) (hF0 : fz = 0 → RSn q pw len s1 ∧ sk tx len b = sk tx len (s1.1 12) ∧ PIb (s1.2 24) (s1.2 25) (s1.1 23) ∧ s1.1 23 ≤ 48 ∧ q.1 5 = -1 ∧ (∀ res, pEv tx len false s1 res → pEv tx len true s0 res)) (hF1 : ¬ fz = 0 → ∃ pl s2, pEv tx len true s0 (fz, pl, s2) ∧ q.1 5 = nI pl) (hk2 : k ≤ 240), (240 - k < n56m) → ∀ (H : Heap) (locs : List Loc) (ls : Array Slot), PP G (rv G h q pw) H → va_D A (rv G h q pw) → va_S A s.heap H locs → lv_has ls 2 [(0, .ref (h 0)), (1, .int (nI k))] → W p l e (headSpec wsX1_readAll ({ frames := 5, cells := 0, slots := 0, locals := 117 })).room s m ([.ref (h 0)] : List Value).toArray below meth c H locs 0 0 (MQ below (va_Qi (fun (r : Int32) (v : oS × oS) => ∃ q p res, v = (q, p) ∧ pEv tx len true s0 res ∧ q.1 1 = nI 0 ∧ q.1 4 = nI res.1 ∧ r = nI res.1 ∧ (∃ n m, p.1 0 = nI n ∧ n ≤ 24 ∧ p.1 5 = nI m ∧ m ≤ 120) ∧ (¬ res.1 = 0 → q.1 5 = nI res.2.1) ∧ (res.1 = 0 → q.1 5 = -1 ∧ WovC p res.2.2) ∧ res.1 ≤ 4) (fun v t => PP G (rv G h v.1 v.2) t.heap) A) ([.ref (h 0)] : List Value).toArray s 0 0 A) (F0 m 56 ls []) := by
          intro n56m
          induction n56m with
          | zero => intro k q pw s1 fz b d n mq hk hR hbq hbn hdq hdn en hn em hm htx_q hbz hf4 hF0 hF1 hk2 hmu H locs ls hP hD hS hl; exact absurd hmu (Nat.not_lt_zero _)
          | succ n56m ih56 =>
            intro k q pw s1 fz b d n mq hk hR hbq hbn hdq hdn en hn em hm htx_q hbz hf4 hF0 hF1 hk2 hmu H locs ls hP hD hS hl
            refine lv_iload_n hx hb dX1_readAll_56 rfl (lv_at hl 1 rfl) ?_
            refine lv_sipush (v := nI 240) hx hb dX1_readAll_57 (by decide) ?_
            refine lv_icmp_ge (tgt := 85) hx hb dX1_readAll_60 (by decide) (fun c60 => ?_) (fun c60 => ?_)
            · skip
              have n60 : 240 ≤ k := (nI_leI (a := 240) (b := k) (by omega) (by omega)).mp c60
              rcases Nat.eq_zero_or_pos fz with hz | hz
              · skip
                subst hz
                obtain ⟨⟨e1, e8, e0, e5, ⟨q240, qa, qv, ql, qd, qpar⟩, hrw⟩, hskb, hPb, hd48, h5, hEv⟩ := hF0 rfl
                have hend : ¬ sk tx len (s1.1 12) < len := by rw [← hskb]; have h9 : b ≤ sk tx len b := rn_ge _; omega
                refine lv_aload_n hx hb dX1_readAll_85 rfl (lv_at hl 0 rfl) ?_
                refine va_get (D := gD G) (ci := 1) (v := .int (q.1 8)) (C := RX1) (T := TX1) (N := 10) hx hb hts hiX1 hown hK hP 0 rfl rfl 8 (by decide) k38 (fun _ h9 => h9) rfl dX1_readAll_86 ?_
                refine topE e8 ?_
                refine lv_if_le (tgt := 101) hx hb dX1_readAll_89 (by decide) (fun c89 => ?_) (fun c89 => ?_)
                · skip
                  have n89 : (s1.1 23) ≤ 0 := (nI_leI (a := s1.1 23) (b := 0) (by omega) (by omega)).mp c89
                  refine lv_aload_n hx hb dX1_readAll_101 rfl (lv_at hl 0 rfl) ?_
                  refine lv_iconst (v := nI 0) hx hb dX1_readAll_102 (by decide) ?_
                  refine va_put (D := gD G) (ci := 1) (v := .int (nI 0)) (ty := .int) (C := RX1) (T := TX1) (N := 10) hx hb hts hiX1 tyX1 tyX1_ok nmX1 hown hK hP hD hS 0 rfl rfl 1 (by decide) k15 (fun _ h9 => h9) rfl (tyX1_ok 1 (by decide)) (rfl) (rfl) (Nat.le_of_ble_eq_true rfl) dX1_readAll_103 (fun H locs hP hD hS => ?_)
                  have hP : PP G (rv G h (oI q 1 (nI 0)) pw) H := hP
                  have hD : va_D A (rv G h (oI q 1 (nI 0)) pw) := hD
                  refine lv_aload_n hx hb dX1_readAll_106 rfl (lv_at hl 0 rfl) ?_
                  refine va_get (D := gD G) (ci := 1) (v := .int (q.1 4)) (C := RX1) (T := TX1) (N := 10) hx hb hts hiX1 hown hK hP 0 rfl rfl 4 (by decide) k25 (fun _ h9 => h9) rfl dX1_readAll_107 ?_
                  refine topE hbz ?_
                  exact W.iret (v := nI 0) hx hb hr (fun t ht hW => ⟨⟨nI 0, (oI q 1 (nI 0), pw), rfl, ⟨_, _, (0, 0, s1), rfl, hEv _ (pEv_0 hend (by omega)), rfl, hbz, rfl, ⟨s1.1 15, s1.1 19, e0, by omega, e5, by omega⟩, fun q9 => absurd rfl q9, fun _ => ⟨h5, ⟨e0, e5, qv, ql, qpar, hrw.1, hrw.2.1, hrw.2.2.1, hrw.2.2.2.1, hrw.2.2.2.2.1, hrw.2.2.2.2.2.1, hrw.2.2.2.2.2.2.2.2⟩⟩, Nat.zero_le _⟩, show PP G (rv G h (oI q 1 (nI 0)) pw) t.heap by rw [ht]; exact hP⟩, hS.F ht⟩) hS.2.2 dX1_readAll_110
                · skip
                  have n89 : ¬ ((s1.1 23) ≤ 0) := fun q9 => c89 ((nI_leI (a := s1.1 23) (b := 0) (by omega) (by omega)).mpr q9)
                  refine lv_aload_n hx hb dX1_readAll_92 rfl (lv_at hl 0 rfl) ?_
                  refine lv_iconst (v := nI 1) hx hb dX1_readAll_93 (by decide) ?_
                  refine lv_aload_n hx hb dX1_readAll_94 rfl (lv_at hl 0 rfl) ?_
                  refine va_get (D := gD G) (ci := 1) (v := .int (q.1 1)) (C := RX1) (T := TX1) (N := 10) hx hb hts hiX1 hown hK hP 0 rfl rfl 1 (by decide) k15 (fun _ h9 => h9) rfl dX1_readAll_95 ?_
                  refine topE e1 ?_
                  refine cXv (As := [.int (nI 1), .int (nI len)]) (rest := []) (S := oS × oS) (wa := rv G h q pw) (w1 := fun v => rv G h v.1 v.2) ⟨hx, hb, hml, hown, hts⟩ (mt_X1_fail0 l G h _ q pw (nI 1) (nI len) (hbz)) (cwV 2 hts gX1_readAll_X1_fail rfl rfl rfl ⟨rfl, hd_X1_fail⟩ ⟨Nat.le_of_ble_eq_true rfl, Nat.le_of_ble_eq_true rfl⟩) hK hN hP hD hS hA (fun _ => rfl) 0 1 rfl rfl rfl hl.1 rfl (Nat.le_of_ble_eq_true rfl) ⟨Nat.zero_le _, Nat.zero_le _⟩ dX1_readAll_98 (fun u98 H locs hw98 hP hD hS => ?_)
                  obtain rfl := hw98
                  have hP : PP G (rv G h (oI (oI q 4 (nI 1)) 5 (nI len)) pw) H := hP
                  have hD : va_D A (rv G h (oI (oI q 4 (nI 1)) 5 (nI len)) pw) := hD
                  refine lv_aload_n hx hb dX1_readAll_101 rfl (lv_at hl 0 rfl) ?_
                  refine lv_iconst (v := nI 0) hx hb dX1_readAll_102 (by decide) ?_
                  refine va_put (D := gD G) (ci := 1) (v := .int (nI 0)) (ty := .int) (C := RX1) (T := TX1) (N := 10) hx hb hts hiX1 tyX1 tyX1_ok nmX1 hown hK hP hD hS 0 rfl rfl 1 (by decide) k15 (fun _ h9 => h9) rfl (tyX1_ok 1 (by decide)) (rfl) (rfl) (Nat.le_of_ble_eq_true rfl) dX1_readAll_103 (fun H locs hP hD hS => ?_)
                  have hP : PP G (rv G h (oI (oI (oI q 4 (nI 1)) 5 (nI len)) 1 (nI 0)) pw) H := hP
                  have hD : va_D A (rv G h (oI (oI (oI q 4 (nI 1)) 5 (nI len)) 1 (nI 0)) pw) := hD
                  refine lv_aload_n hx hb dX1_readAll_106 rfl (lv_at hl 0 rfl) ?_
                  refine va_get (D := gD G) (ci := 1) (v := .int (nI 1)) (C := RX1) (T := TX1) (N := 10) hx hb hts hiX1 hown hK hP 0 rfl rfl 4 (by decide) k25 (fun _ h9 => h9) rfl dX1_readAll_107 ?_
                  exact W.iret (v := nI 1) hx hb hr (fun t ht hW => ⟨⟨nI 1, (oI (oI (oI q 4 (nI 1)) 5 (nI len)) 1 (nI 0), pw), rfl, ⟨_, _, (1, len, s1), rfl, hEv _ (pEv_1 hend (by omega)), rfl, rfl, rfl, ⟨s1.1 15, s1.1 19, e0, by omega, e5, by omega⟩, fun _ => rfl, fun q9 => absurd q9 (show ¬ (1 : Nat) = 0 by decide), (show 1 ≤ 4 by omega)⟩, show PP G (rv G h (oI (oI (oI q 4 (nI 1)) 5 (nI len)) 1 (nI 0)) pw) t.heap by rw [ht]; exact hP⟩, hS.F ht⟩) hS.2.2 dX1_readAll_110
              · skip
                refine lv_aload_n hx hb dX1_readAll_85 rfl (lv_at hl 0 rfl) ?_
                refine va_get (D := gD G) (ci := 1) (v := .int (q.1 8)) (C := RX1) (T := TX1) (N := 10) hx hb hts hiX1 hown hK hP 0 rfl rfl 8 (by decide) k38 (fun _ h9 => h9) rfl dX1_readAll_86 ?_
                refine topE hdq ?_
                refine lv_if_le (tgt := 101) hx hb dX1_readAll_89 (by decide) (fun c89 => ?_) (fun c89 => ?_)
                · skip
                  have n89 : d ≤ 0 := (nI_leI (a := d) (b := 0) (by omega) (by omega)).mp c89
                  refine lv_aload_n hx hb dX1_readAll_101 rfl (lv_at hl 0 rfl) ?_
                  refine lv_iconst (v := nI 0) hx hb dX1_readAll_102 (by decide) ?_
                  refine va_put (D := gD G) (ci := 1) (v := .int (nI 0)) (ty := .int) (C := RX1) (T := TX1) (N := 10) hx hb hts hiX1 tyX1 tyX1_ok nmX1 hown hK hP hD hS 0 rfl rfl 1 (by decide) k15 (fun _ h9 => h9) rfl (tyX1_ok 1 (by decide)) (rfl) (rfl) (Nat.le_of_ble_eq_true rfl) dX1_readAll_103 (fun H locs hP hD hS => ?_)
                  have hP : PP G (rv G h (oI q 1 (nI 0)) pw) H := hP
                  have hD : va_D A (rv G h (oI q 1 (nI 0)) pw) := hD
                  refine lv_aload_n hx hb dX1_readAll_106 rfl (lv_at hl 0 rfl) ?_
                  refine va_get (D := gD G) (ci := 1) (v := .int (q.1 4)) (C := RX1) (T := TX1) (N := 10) hx hb hts hiX1 hown hK hP 0 rfl rfl 4 (by decide) k25 (fun _ h9 => h9) rfl dX1_readAll_107 ?_
                  refine topE hbz ?_
                  exact W.iret (v := nI fz) hx hb hr (fun t ht hW => ⟨⟨nI fz, (oI q 1 (nI 0), pw), rfl, by obtain ⟨pl9, s9, h9, h10⟩ := hF1 (by omega); exact ⟨_, _, (fz, pl9, s9), rfl, h9, rfl, hbz, rfl, ⟨n, mq, en, by omega, em, by omega⟩, fun _ => h10, fun q9 => absurd q9 (by omega), hf4⟩, show PP G (rv G h (oI q 1 (nI 0)) pw) t.heap by rw [ht]; exact hP⟩, hS.F ht⟩) hS.2.2 dX1_readAll_110
                · skip
                  have n89 : ¬ (d ≤ 0) := fun q9 => c89 ((nI_leI (a := d) (b := 0) (by omega) (by omega)).mpr q9)
                  refine lv_aload_n hx hb dX1_readAll_92 rfl (lv_at hl 0 rfl) ?_
                  refine lv_iconst (v := nI 1) hx hb dX1_readAll_93 (by decide) ?_
                  refine lv_aload_n hx hb dX1_readAll_94 rfl (lv_at hl 0 rfl) ?_
                  refine va_get (D := gD G) (ci := 1) (v := .int (q.1 1)) (C := RX1) (T := TX1) (N := 10) hx hb hts hiX1 hown hK hP 0 rfl rfl 1 (by decide) k15 (fun _ h9 => h9) rfl dX1_readAll_95 ?_
                  refine topE ((hR.1 1 (by decide)).trans hlen) ?_
                  refine cXv (As := [.int (nI 1), .int (nI len)]) (rest := []) (S := oS × oS) (wa := rv G h q pw) (w1 := fun v => rv G h v.1 v.2) ⟨hx, hb, hml, hown, hts⟩ (mt_X1_fail1 l G h _ q pw fz (nI 1) (nI len) (hbz) (by first | assumption | omega) (by first | assumption | omega)) (cwV 2 hts gX1_readAll_X1_fail rfl rfl rfl ⟨rfl, hd_X1_fail⟩ ⟨Nat.le_of_ble_eq_true rfl, Nat.le_of_ble_eq_true rfl⟩) hK hN hP hD hS hA (fun _ => rfl) 0 1 rfl rfl rfl hl.1 rfl (Nat.le_of_ble_eq_true rfl) ⟨Nat.zero_le _, Nat.zero_le _⟩ dX1_readAll_98 (fun u98 H locs hw98 hP hD hS => ?_)
                  obtain rfl := hw98
                  have hP : PP G (rv G h q pw) H := hP
                  have hD : va_D A (rv G h q pw) := hD
                  refine lv_aload_n hx hb dX1_readAll_101 rfl (lv_at hl 0 rfl) ?_
                  refine lv_iconst (v := nI 0) hx hb dX1_readAll_102 (by decide) ?_
                  refine va_put (D := gD G) (ci := 1) (v := .int (nI 0)) (ty := .int) (C := RX1) (T := TX1) (N := 10) hx hb hts hiX1 tyX1 tyX1_ok nmX1 hown hK hP hD hS 0 rfl rfl 1 (by decide) k15 (fun _ h9 => h9) rfl (tyX1_ok 1 (by decide)) (rfl) (rfl) (Nat.le_of_ble_eq_true rfl) dX1_readAll_103 (fun H locs hP hD hS => ?_)
                  have hP : PP G (rv G h (oI q 1 (nI 0)) pw) H := hP
                  have hD : va_D A (rv G h (oI q 1 (nI 0)) pw) := hD
                  refine lv_aload_n hx hb dX1_readAll_106 rfl (lv_at hl 0 rfl) ?_
                  refine va_get (D := gD G) (ci := 1) (v := .int (q.1 4)) (C := RX1) (T := TX1) (N := 10) hx hb hts hiX1 hown hK hP 0 rfl rfl 4 (by decide) k25 (fun _ h9 => h9) rfl dX1_readAll_107 ?_
                  refine topE hbz ?_
                  exact W.iret (v := nI fz) hx hb hr (fun t ht hW => ⟨⟨nI fz, (oI q 1 (nI 0), pw), rfl, by obtain ⟨pl9, s9, h9, h10⟩ := hF1 (by omega); exact ⟨_, _, (fz, pl9, s9), rfl, h9, rfl, hbz, rfl, ⟨n, mq, en, by omega, em, by omega⟩, fun _ => h10, fun q9 => absurd q9 (by omega), hf4⟩, show PP G (rv G h (oI q 1 (nI 0)) pw) t.heap by rw [ht]; exact hP⟩, hS.F ht⟩) hS.2.2 dX1_readAll_110
            · skip
              have n60 : ¬ (240 ≤ k) := fun q9 => c60 ((nI_leI (a := 240) (b := k) (by omega) (by omega)).mpr q9)
              rcases Nat.eq_zero_or_pos fz with hz | hz
              · skip
                subst hz
                obtain ⟨⟨e1, e8, e0, e5, ⟨q240, qa, qv, ql, qd, qpar⟩, hrw⟩, hskb, hPb, hd48, h5, hEv⟩ := hF0 rfl
                refine lv_aload_n hx hb dX1_readAll_63 rfl (lv_at hl 0 rfl) ?_
                refine cXi (As := []) (rest := []) (S := oS × oS) (wa := rv G h q pw) (w1 := fun v => rv G h v.1 v.2) ⟨hx, hb, hml, hown, hts⟩ (mt_X1_nextSign0 l G h _ q pw len b tx (e1) (hbq) (by first | assumption | omega) (by first | assumption | omega) (htx_q) (hbz)) (cwV 0 hts gX1_readAll_X1_nextSign rfl rfl rfl ⟨rfl, hd_X1_nextSign⟩ ⟨Nat.le_of_ble_eq_true rfl, Nat.le_of_ble_eq_true rfl⟩) hK hN hP hD hS hA (fun _ => rfl) 0 1 rfl rfl rfl hl.1 rfl (Nat.le_of_ble_eq_true rfl) ⟨Nat.zero_le _, Nat.zero_le _⟩ dX1_readAll_64 (fun r64 u64 H locs hw64 hP hD hS => ?_)
                obtain ⟨rfl, rfl⟩ := hw64
                have hP : PP G (rv G h (oI q 2 (nI (sk tx len b))) pw) H := hP
                have hD : va_D A (rv G h (oI q 2 (nI (sk tx len b))) pw) := hD
                have hge64 : b ≤ sk tx len b := rn_ge _
                have hle64 : sk tx len b ≤ len := rn_le (by omega)
                rw [hskb] at hP hD ⊢
                have hgs : s1.1 12 ≤ sk tx len (s1.1 12) := rn_ge _
                have hls : sk tx len (s1.1 12) ≤ len := rn_le (by omega)
                refine lv_iconst (v := (-1 : Int32)) hx hb dX1_readAll_67 (by decide) ?_
                refine lv_icmp_eq (tgt := 85) hx hb dX1_readAll_68 (by decide) (fun c68 => ?_) (fun c68 => ?_)
                · skip
                  have hend : ¬ sk tx len (s1.1 12) < len := fun q9 => by rw [hd_in q9] at c68; obtain ⟨j9, hj9, ej9⟩ := hlet _ q9; rw [ej9] at c68; exact nI_nm1 (by omega) c68
                  refine lv_aload_n hx hb dX1_readAll_85 rfl (lv_at hl 0 rfl) ?_
                  refine va_get (D := gD G) (ci := 1) (v := .int (q.1 8)) (C := RX1) (T := TX1) (N := 10) hx hb hts hiX1 hown hK hP 0 rfl rfl 8 (by decide) k38 (fun _ h9 => h9) rfl dX1_readAll_86 ?_
                  refine topE e8 ?_
                  refine lv_if_le (tgt := 101) hx hb dX1_readAll_89 (by decide) (fun c89 => ?_) (fun c89 => ?_)
                  · skip
                    have n89 : (s1.1 23) ≤ 0 := (nI_leI (a := s1.1 23) (b := 0) (by omega) (by omega)).mp c89
                    refine lv_aload_n hx hb dX1_readAll_101 rfl (lv_at hl 0 rfl) ?_
                    refine lv_iconst (v := nI 0) hx hb dX1_readAll_102 (by decide) ?_
                    refine va_put (D := gD G) (ci := 1) (v := .int (nI 0)) (ty := .int) (C := RX1) (T := TX1) (N := 10) hx hb hts hiX1 tyX1 tyX1_ok nmX1 hown hK hP hD hS 0 rfl rfl 1 (by decide) k15 (fun _ h9 => h9) rfl (tyX1_ok 1 (by decide)) (rfl) (rfl) (Nat.le_of_ble_eq_true rfl) dX1_readAll_103 (fun H locs hP hD hS => ?_)
                    have hP : PP G (rv G h (oI (oI q 2 (nI (sk tx len (s1.1 12)))) 1 (nI 0)) pw) H := hP
                    have hD : va_D A (rv G h (oI (oI q 2 (nI (sk tx len (s1.1 12)))) 1 (nI 0)) pw) := hD
                    refine lv_aload_n hx hb dX1_readAll_106 rfl (lv_at hl 0 rfl) ?_
                    refine va_get (D := gD G) (ci := 1) (v := .int (q.1 4)) (C := RX1) (T := TX1) (N := 10) hx hb hts hiX1 hown hK hP 0 rfl rfl 4 (by decide) k25 (fun _ h9 => h9) rfl dX1_readAll_107 ?_
                    refine topE hbz ?_
                    exact W.iret (v := nI 0) hx hb hr (fun t ht hW => ⟨⟨nI 0, (oI (oI q 2 (nI (sk tx len (s1.1 12)))) 1 (nI 0), pw), rfl, ⟨_, _, (0, 0, s1), rfl, hEv _ (pEv_0 hend (by omega)), rfl, hbz, rfl, ⟨s1.1 15, s1.1 19, e0, by omega, e5, by omega⟩, fun q9 => absurd rfl q9, fun _ => ⟨h5, ⟨e0, e5, qv, ql, qpar, hrw.1, hrw.2.1, hrw.2.2.1, hrw.2.2.2.1, hrw.2.2.2.2.1, hrw.2.2.2.2.2.1, hrw.2.2.2.2.2.2.2.2⟩⟩, Nat.zero_le _⟩, show PP G (rv G h (oI (oI q 2 (nI (sk tx len (s1.1 12)))) 1 (nI 0)) pw) t.heap by rw [ht]; exact hP⟩, hS.F ht⟩) hS.2.2 dX1_readAll_110
                  · skip
                    have n89 : ¬ ((s1.1 23) ≤ 0) := fun q9 => c89 ((nI_leI (a := s1.1 23) (b := 0) (by omega) (by omega)).mpr q9)
                    refine lv_aload_n hx hb dX1_readAll_92 rfl (lv_at hl 0 rfl) ?_
                    refine lv_iconst (v := nI 1) hx hb dX1_readAll_93 (by decide) ?_
                    refine lv_aload_n hx hb dX1_readAll_94 rfl (lv_at hl 0 rfl) ?_
                    refine va_get (D := gD G) (ci := 1) (v := .int (q.1 1)) (C := RX1) (T := TX1) (N := 10) hx hb hts hiX1 hown hK hP 0 rfl rfl 1 (by decide) k15 (fun _ h9 => h9) rfl dX1_readAll_95 ?_
                    refine topE e1 ?_
                    refine cXv (As := [.int (nI 1), .int (nI len)]) (rest := []) (S := oS × oS) (wa := rv G h (oI q 2 (nI (sk tx len (s1.1 12)))) pw) (w1 := fun v => rv G h v.1 v.2) ⟨hx, hb, hml, hown, hts⟩ (mt_X1_fail0 l G h _ (oI q 2 (nI (sk tx len (s1.1 12)))) pw (nI 1) (nI len) (hbz)) (cwV 2 hts gX1_readAll_X1_fail rfl rfl rfl ⟨rfl, hd_X1_fail⟩ ⟨Nat.le_of_ble_eq_true rfl, Nat.le_of_ble_eq_true rfl⟩) hK hN hP hD hS hA (fun _ => rfl) 0 1 rfl rfl rfl hl.1 rfl (Nat.le_of_ble_eq_true rfl) ⟨Nat.zero_le _, Nat.zero_le _⟩ dX1_readAll_98 (fun u98 H locs hw98 hP hD hS => ?_)
                    obtain rfl := hw98
                    have hP : PP G (rv G h (oI (oI (oI q 2 (nI (sk tx len (s1.1 12)))) 4 (nI 1)) 5 (nI len)) pw) H := hP
                    have hD : va_D A (rv G h (oI (oI (oI q 2 (nI (sk tx len (s1.1 12)))) 4 (nI 1)) 5 (nI len)) pw) := hD
                    refine lv_aload_n hx hb dX1_readAll_101 rfl (lv_at hl 0 rfl) ?_
                    refine lv_iconst (v := nI 0) hx hb dX1_readAll_102 (by decide) ?_
                    refine va_put (D := gD G) (ci := 1) (v := .int (nI 0)) (ty := .int) (C := RX1) (T := TX1) (N := 10) hx hb hts hiX1 tyX1 tyX1_ok nmX1 hown hK hP hD hS 0 rfl rfl 1 (by decide) k15 (fun _ h9 => h9) rfl (tyX1_ok 1 (by decide)) (rfl) (rfl) (Nat.le_of_ble_eq_true rfl) dX1_readAll_103 (fun H locs hP hD hS => ?_)
                    have hP : PP G (rv G h (oI (oI (oI (oI q 2 (nI (sk tx len (s1.1 12)))) 4 (nI 1)) 5 (nI len)) 1 (nI 0)) pw) H := hP
                    have hD : va_D A (rv G h (oI (oI (oI (oI q 2 (nI (sk tx len (s1.1 12)))) 4 (nI 1)) 5 (nI len)) 1 (nI 0)) pw) := hD
                    refine lv_aload_n hx hb dX1_readAll_106 rfl (lv_at hl 0 rfl) ?_
                    refine va_get (D := gD G) (ci := 1) (v := .int (nI 1)) (C := RX1) (T := TX1) (N := 10) hx hb hts hiX1 hown hK hP 0 rfl rfl 4 (by decide) k25 (fun _ h9 => h9) rfl dX1_readAll_107 ?_
                    exact W.iret (v := nI 1) hx hb hr (fun t ht hW => ⟨⟨nI 1, (oI (oI (oI (oI q 2 (nI (sk tx len (s1.1 12)))) 4 (nI 1)) 5 (nI len)) 1 (nI 0), pw), rfl, ⟨_, _, (1, len, s1), rfl, hEv _ (pEv_1 hend (by omega)), rfl, rfl, rfl, ⟨s1.1 15, s1.1 19, e0, by omega, e5, by omega⟩, fun _ => rfl, fun q9 => absurd q9 (show ¬ (1 : Nat) = 0 by decide), (show 1 ≤ 4 by omega)⟩, show PP G (rv G h (oI (oI (oI (oI q 2 (nI (sk tx len (s1.1 12)))) 4 (nI 1)) 5 (nI len)) 1 (nI 0)) pw) t.heap by rw [ht]; exact hP⟩, hS.F ht⟩) hS.2.2 dX1_readAll_110
                · skip
                  have hlt : sk tx len (s1.1 12) < len := hd_lt c68
                  refine lv_aload_n hx hb dX1_readAll_71 rfl (lv_at hl 0 rfl) ?_
                  refine lv_aload_n hx hb dX1_readAll_72 rfl (lv_at hl 0 rfl) ?_
                  refine cXi (As := []) (rest := [.ref (h 0)]) (S := oS × oS) (wa := rv G h (oI q 2 (nI (sk tx len (s1.1 12)))) pw) (w1 := fun v => rv G h v.1 v.2) ⟨hx, hb, hml, hown, hts⟩ (mt_X1_nextSign0 l G h _ (oI q 2 (nI (sk tx len (s1.1 12)))) pw len (sk tx len (s1.1 12)) tx (e1) (rfl) (by first | assumption | omega) (by first | assumption | omega) (htx_q) (hbz)) (cwV 0 hts gX1_readAll_X1_nextSign rfl rfl rfl ⟨rfl, hd_X1_nextSign⟩ ⟨Nat.le_of_ble_eq_true rfl, Nat.le_of_ble_eq_true rfl⟩) hK hN hP hD hS hA (fun _ => rfl) 0 1 rfl rfl rfl hl.1 rfl (Nat.le_of_ble_eq_true rfl) ⟨Nat.zero_le _, Nat.zero_le _⟩ dX1_readAll_73 (fun r73 u73 H locs hw73 hP hD hS => ?_)
                  obtain ⟨rfl, rfl⟩ := hw73
                  have hP : PP G (rv G h (oI (oI q 2 (nI (sk tx len (s1.1 12)))) 2 (nI (sk tx len (sk tx len (s1.1 12))))) pw) H := hP
                  have hD : va_D A (rv G h (oI (oI q 2 (nI (sk tx len (s1.1 12)))) 2 (nI (sk tx len (sk tx len (s1.1 12))))) pw) := hD
                  have hge73 : (sk tx len (s1.1 12)) ≤ sk tx len (sk tx len (s1.1 12)) := rn_ge _
                  have hle73 : sk tx len (sk tx len (s1.1 12)) ≤ len := rn_le (by omega)
                  rw [sk_i] at hP hD ⊢
                  refine cXv (As := [.int (hd tx len (sk tx len (s1.1 12)))]) (rest := []) (S := oS × oS) (wa := rv G h (oI (oI q 2 (nI (sk tx len (s1.1 12)))) 2 (nI (sk tx len (s1.1 12)))) pw) (w1 := fun v => rv G h v.1 v.2) ⟨hx, hb, hml, hown, hts⟩ (mt_X1_readItem l G h _ (oI (oI q 2 (nI (sk tx len (s1.1 12)))) 2 (nI (sk tx len (s1.1 12)))) pw tx len (pN s1 12 (sk tx len (s1.1 12))) (hd tx len (sk tx len (s1.1 12))) (⟨e1, rfl, e8, e0, e5, ⟨q240, (show sk tx len (s1.1 12) ≤ len by omega), qv, ql, (show s1.1 23 ≤ sk tx len (s1.1 12) by omega), qpar⟩, hrw⟩) (htx_q) (hbz) ((show sk tx len (s1.1 12) < len from hlt)) (hPb) (hd48) (rfl)) (cwV 1 hts gX1_readAll_X1_readItem rfl rfl rfl ⟨rfl, hd_X1_readItem⟩ ⟨Nat.le_of_ble_eq_true rfl, Nat.le_of_ble_eq_true rfl⟩) hK hN hP hD hS hA (fun _ => rfl) 0 1 rfl rfl rfl hl.1 rfl (Nat.le_of_ble_eq_true rfl) ⟨Nat.zero_le _, Nat.zero_le _⟩ dX1_readAll_76 (fun u76 H locs hw76 hP hD hS => ?_)
                  rcases hw76 with ⟨q76, p76, s76, rfl, hR76, hQ76, hS76, ha76, hPb76, hd76⟩ | ⟨q76, p76, f76, pl76, s76, rfl, hR76, hQ76, hp76, hg76, e476, e576, b76, d76, m76, k76, ebb76, hbb76, edd76, hdd76, enn76, hnn76, emm76, hmm76⟩
                  · skip
                    have hP : PP G (rv G h q76 p76) H := hP
                    have hD : va_D A (rv G h q76 p76) := hD
                    have htx76 : rwE (q76.2 0) tx len := by rw [hR76.2 0 (by decide)]; exact (htx_q)
                    have ha76 : sk tx len (s1.1 12) < s76.1 12 := ha76
                    refine lv_iinc (v := nI (k + 1)) (lv' := [(1, .int (nI (k + 1))), (0, .ref (h 0))]) hx hb dX1_readAll_79 hl (k := 1) rfl (nI_1 k) (by decide) rfl (fun ls hl => ?_)
                    refine lv_goto (tgt := 56) hx hb dX1_readAll_82 (by decide) ?_
                    exact ih56 (k + 1) q76 p76 s76 0 (s76.1 12) (s76.1 23) (s76.1 15) (s76.1 19) (Or.inl (by omega)) (by repeat (first | exact rel.refl _ | exact rel.mono (by assumption) (by decide) (by decide) | refine rel.I (by decide) ?_ | refine rel.A (by decide) ?_ | refine rel.trans ?_ (rel.mono (by assumption) (by decide) (by decide)))) (hS76.2.1) (hS76.2.2.2.2.2.1.2.1) (hS76.2.2.1) (hd76) (hS76.2.2.2.1) (hS76.2.2.2.2.2.1.2.2.1) (hS76.2.2.2.2.1) (hS76.2.2.2.2.2.1.2.2.2.1) (htx76) ((hR76.1 4 (by decide)).trans (hbz)) (by omega) (fun _ => ⟨hS76.n, rfl, hPb76, hd76, (hR76.1 5 (by decide)).trans h5, fun res h => hEv res (pEv_s (z := false) hlt hQ76 h)⟩) (fun q => absurd rfl q) (by first | assumption | omega) (by omega) _ _ ls hP hD hS (lv_sub hl [1, 0] rfl)
                  · skip
                    have hP : PP G (rv G h q76 p76) H := hP
                    have hD : va_D A (rv G h q76 p76) := hD
                    have htx76 : rwE (q76.2 0) tx len := by rw [hR76.2 0 (by decide)]; exact (htx_q)
                    refine lv_iinc (v := nI (k + 1)) (lv' := [(1, .int (nI (k + 1))), (0, .ref (h 0))]) hx hb dX1_readAll_79 hl (k := 1) rfl (nI_1 k) (by decide) rfl (fun ls hl => ?_)
                    refine lv_goto (tgt := 56) hx hb dX1_readAll_82 (by decide) ?_
                    exact ih56 (k + 1) q76 p76 s1 f76 b76 d76 m76 k76 (Or.inr (by omega)) (by repeat (first | exact rel.refl _ | exact rel.mono (by assumption) (by decide) (by decide) | refine rel.I (by decide) ?_ | refine rel.A (by decide) ?_ | refine rel.trans ?_ (rel.mono (by assumption) (by decide) (by decide)))) (ebb76) (by omega) (edd76) (by omega) (enn76) (by omega) (emm76) (by omega) (htx76) (e476) (by omega) (fun q => absurd q (by omega)) (fun _ => ⟨pl76, s76, hEv _ (pEv_f (z := false) hlt hQ76 (by omega)), e576⟩) (by first | assumption | omega) (by omega) _ _ ls hP hD hS (lv_sub hl [1, 0] rfl)
              · skip
                refine lv_aload_n hx hb dX1_readAll_63 rfl (lv_at hl 0 rfl) ?_
                refine cXi (As := []) (rest := []) (S := oS × oS) (wa := rv G h q pw) (w1 := fun v => rv G h v.1 v.2) ⟨hx, hb, hml, hown, hts⟩ (mt_X1_nextSign1 l G h _ q pw len b fz tx ((hR.1 1 (by decide)).trans hlen) (hbq) (hbz) (by first | assumption | omega) (by first | assumption | omega) (htx_q) (by first | assumption | omega) (by first | assumption | omega)) (cwV 0 hts gX1_readAll_X1_nextSign rfl rfl rfl ⟨rfl, hd_X1_nextSign⟩ ⟨Nat.le_of_ble_eq_true rfl, Nat.le_of_ble_eq_true rfl⟩) hK hN hP hD hS hA (fun _ => rfl) 0 1 rfl rfl rfl hl.1 rfl (Nat.le_of_ble_eq_true rfl) ⟨Nat.zero_le _, Nat.zero_le _⟩ dX1_readAll_64 (fun r64 u64 H locs hw64 hP hD hS => ?_)
                obtain ⟨rfl, rfl⟩ := hw64
                have hP : PP G (rv G h (oI q 2 (nI (sk tx len b))) pw) H := hP
                have hD : va_D A (rv G h (oI q 2 (nI (sk tx len b))) pw) := hD
                have hge64 : b ≤ sk tx len b := rn_ge _
                have hle64 : sk tx len b ≤ len := rn_le (by omega)
                refine lv_iconst (v := (-1 : Int32)) hx hb dX1_readAll_67 (by decide) ?_
                refine lv_icmp_eq (tgt := 85) hx hb dX1_readAll_68 (by decide) (fun _ => ?_) (fun c9 => absurd (by decide) c9)
                refine lv_aload_n hx hb dX1_readAll_85 rfl (lv_at hl 0 rfl) ?_
                refine va_get (D := gD G) (ci := 1) (v := .int (q.1 8)) (C := RX1) (T := TX1) (N := 10) hx hb hts hiX1 hown hK hP 0 rfl rfl 8 (by decide) k38 (fun _ h9 => h9) rfl dX1_readAll_86 ?_
                refine topE hdq ?_
                refine lv_if_le (tgt := 101) hx hb dX1_readAll_89 (by decide) (fun c89 => ?_) (fun c89 => ?_)
                · skip
                  have n89 : d ≤ 0 := (nI_leI (a := d) (b := 0) (by omega) (by omega)).mp c89
                  refine lv_aload_n hx hb dX1_readAll_101 rfl (lv_at hl 0 rfl) ?_
                  refine lv_iconst (v := nI 0) hx hb dX1_readAll_102 (by decide) ?_
                  refine va_put (D := gD G) (ci := 1) (v := .int (nI 0)) (ty := .int) (C := RX1) (T := TX1) (N := 10) hx hb hts hiX1 tyX1 tyX1_ok nmX1 hown hK hP hD hS 0 rfl rfl 1 (by decide) k15 (fun _ h9 => h9) rfl (tyX1_ok 1 (by decide)) (rfl) (rfl) (Nat.le_of_ble_eq_true rfl) dX1_readAll_103 (fun H locs hP hD hS => ?_)
                  have hP : PP G (rv G h (oI (oI q 2 (nI (sk tx len b))) 1 (nI 0)) pw) H := hP
                  have hD : va_D A (rv G h (oI (oI q 2 (nI (sk tx len b))) 1 (nI 0)) pw) := hD
                  refine lv_aload_n hx hb dX1_readAll_106 rfl (lv_at hl 0 rfl) ?_
                  refine va_get (D := gD G) (ci := 1) (v := .int (q.1 4)) (C := RX1) (T := TX1) (N := 10) hx hb hts hiX1 hown hK hP 0 rfl rfl 4 (by decide) k25 (fun _ h9 => h9) rfl dX1_readAll_107 ?_
                  refine topE hbz ?_
                  exact W.iret (v := nI fz) hx hb hr (fun t ht hW => ⟨⟨nI fz, (oI (oI q 2 (nI (sk tx len b))) 1 (nI 0), pw), rfl, by obtain ⟨pl9, s9, h9, h10⟩ := hF1 (by omega); exact ⟨_, _, (fz, pl9, s9), rfl, h9, rfl, hbz, rfl, ⟨n, mq, en, by omega, em, by omega⟩, fun _ => h10, fun q9 => absurd q9 (by omega), hf4⟩, show PP G (rv G h (oI (oI q 2 (nI (sk tx len b))) 1 (nI 0)) pw) t.heap by rw [ht]; exact hP⟩, hS.F ht⟩) hS.2.2 dX1_readAll_110
                · skip
                  have n89 : ¬ (d ≤ 0) := fun q9 => c89 ((nI_leI (a := d) (b := 0) (by omega) (by omega)).mpr q9)
                  refine lv_aload_n hx hb dX1_readAll_92 rfl (lv_at hl 0 rfl) ?_
                  refine lv_iconst (v := nI 1) hx hb dX1_readAll_93 (by decide) ?_
                  refine lv_aload_n hx hb dX1_readAll_94 rfl (lv_at hl 0 rfl) ?_
                  refine va_get (D := gD G) (ci := 1) (v := .int (q.1 1)) (C := RX1) (T := TX1) (N := 10) hx hb hts hiX1 hown hK hP 0 rfl rfl 1 (by decide) k15 (fun _ h9 => h9) rfl dX1_readAll_95 ?_
                  refine topE ((hR.1 1 (by decide)).trans hlen) ?_
                  refine cXv (As := [.int (nI 1), .int (nI len)]) (rest := []) (S := oS × oS) (wa := rv G h (oI q 2 (nI (sk tx len b))) pw) (w1 := fun v => rv G h v.1 v.2) ⟨hx, hb, hml, hown, hts⟩ (mt_X1_fail1 l G h _ (oI q 2 (nI (sk tx len b))) pw fz (nI 1) (nI len) (hbz) (by first | assumption | omega) (by first | assumption | omega)) (cwV 2 hts gX1_readAll_X1_fail rfl rfl rfl ⟨rfl, hd_X1_fail⟩ ⟨Nat.le_of_ble_eq_true rfl, Nat.le_of_ble_eq_true rfl⟩) hK hN hP hD hS hA (fun _ => rfl) 0 1 rfl rfl rfl hl.1 rfl (Nat.le_of_ble_eq_true rfl) ⟨Nat.zero_le _, Nat.zero_le _⟩ dX1_readAll_98 (fun u98 H locs hw98 hP hD hS => ?_)
                  obtain rfl := hw98
                  have hP : PP G (rv G h (oI q 2 (nI (sk tx len b))) pw) H := hP
                  have hD : va_D A (rv G h (oI q 2 (nI (sk tx len b))) pw) := hD
                  refine lv_aload_n hx hb dX1_readAll_101 rfl (lv_at hl 0 rfl) ?_
                  refine lv_iconst (v := nI 0) hx hb dX1_readAll_102 (by decide) ?_
                  refine va_put (D := gD G) (ci := 1) (v := .int (nI 0)) (ty := .int) (C := RX1) (T := TX1) (N := 10) hx hb hts hiX1 tyX1 tyX1_ok nmX1 hown hK hP hD hS 0 rfl rfl 1 (by decide) k15 (fun _ h9 => h9) rfl (tyX1_ok 1 (by decide)) (rfl) (rfl) (Nat.le_of_ble_eq_true rfl) dX1_readAll_103 (fun H locs hP hD hS => ?_)
                  have hP : PP G (rv G h (oI (oI q 2 (nI (sk tx len b))) 1 (nI 0)) pw) H := hP
                  have hD : va_D A (rv G h (oI (oI q 2 (nI (sk tx len b))) 1 (nI 0)) pw) := hD
                  refine lv_aload_n hx hb dX1_readAll_106 rfl (lv_at hl 0 rfl) ?_
                  refine va_get (D := gD G) (ci := 1) (v := .int (q.1 4)) (C := RX1) (T := TX1) (N := 10) hx hb hts hiX1 hown hK hP 0 rfl rfl 4 (by decide) k25 (fun _ h9 => h9) rfl dX1_readAll_107 ?_
                  refine topE hbz ?_
                  exact W.iret (v := nI fz) hx hb hr (fun t ht hW => ⟨⟨nI fz, (oI (oI q 2 (nI (sk tx len b))) 1 (nI 0), pw), rfl, by obtain ⟨pl9, s9, h9, h10⟩ := hF1 (by omega); exact ⟨_, _, (fz, pl9, s9), rfl, h9, rfl, hbz, rfl, ⟨n, mq, en, by omega, em, by omega⟩, fun _ => h10, fun q9 => absurd q9 (by omega), hf4⟩, show PP G (rv G h (oI (oI q 2 (nI (sk tx len b))) 1 (nI 0)) pw) t.heap by rw [ht]; exact hP⟩, hS.F ht⟩) hS.2.2 dX1_readAll_110
        exact LP56 (240 - 0 + 1) 0 q pw s1 fz b d n mq (by first | exact Or.inl (Nat.zero_le _) | omega) (by repeat (first | exact rel.refl _ | exact rel.mono (by assumption) (by decide) (by decide) | refine rel.I (by decide) ?_ | refine rel.A (by decide) ?_ | refine rel.trans ?_ (rel.mono (by assumption) (by decide) (by decide)))) (hbq) (by omega) (hdq) (by omega) (en) (by omega) (em) (by omega) (htx_q) (hbz) (by omega) (fun q => absurd q (by omega)) (hF1) (by first | assumption | omega) (Nat.lt_succ_self _) _ _ ls hP hD hS (lv_sub hl [1, 0] rfl)
      · skip
        have n32 : ¬ (24 < k) := fun q9 => c32 ((nI_ltI (a := 24) (b := k) (by omega) (by omega)).mpr q9)
        rcases Nat.eq_zero_or_pos fz with hz | hz
        · skip
          subst hz
          obtain ⟨⟨e1, e8, e0, e5, ⟨q240, qa, qv, ql, qd, qpar⟩, hrw⟩, hskb, hPb, hd48, h5, hEv, hk15⟩ := hF0 rfl
          refine lv_aload_n hx hb dX1_readAll_35 rfl (lv_at hl 0 rfl) ?_
          refine cXi (As := []) (rest := []) (S := oS × oS) (wa := rv G h q pw) (w1 := fun v => rv G h v.1 v.2) ⟨hx, hb, hml, hown, hts⟩ (mt_X1_nextSign0 l G h _ q pw len b tx (e1) (hbq) (by first | assumption | omega) (by first | assumption | omega) (htx_q) (hbz)) (cwV 0 hts gX1_readAll_X1_nextSign rfl rfl rfl ⟨rfl, hd_X1_nextSign⟩ ⟨Nat.le_of_ble_eq_true rfl, Nat.le_of_ble_eq_true rfl⟩) hK hN hP hD hS hA (fun _ => rfl) 0 1 rfl rfl rfl hl.1 rfl (Nat.le_of_ble_eq_true rfl) ⟨Nat.zero_le _, Nat.zero_le _⟩ dX1_readAll_36 (fun r36 u36 H locs hw36 hP hD hS => ?_)
          obtain ⟨rfl, rfl⟩ := hw36
          have hP : PP G (rv G h (oI q 2 (nI (sk tx len b))) pw) H := hP
          have hD : va_D A (rv G h (oI q 2 (nI (sk tx len b))) pw) := hD
          have hge36 : b ≤ sk tx len b := rn_ge _
          have hle36 : sk tx len b ≤ len := rn_le (by omega)
          rw [hskb] at hP hD ⊢
          have hgs : s1.1 12 ≤ sk tx len (s1.1 12) := rn_ge _
          have hls : sk tx len (s1.1 12) ≤ len := rn_le (by omega)
          refine lv_bipush (v := nI 118) hx hb dX1_readAll_39 (by decide) ?_
          refine lv_icmp_ne (tgt := 54) hx hb dX1_readAll_41 (by decide) (fun c41 => ?_) (fun c41 => ?_)
          · skip
            refine lv_iconst (v := nI 0) hx hb dX1_readAll_54 (by decide) ?_
            refine lv_istore_n (lv' := [(1, .int (nI 0)), (0, .ref (h 0))]) hx hb dX1_readAll_55 rfl hl (by decide) rfl (fun ls hl => ?_)
            have LP56 : ∀ (n56m : Nat), ∀ (k : Nat) (q : oS) (pw : oS) (s1 : pS) (fz : Nat) (b : Nat) (d : Nat) (n : Nat) (mq : Nat) (hk : k ≤ b ∨ ¬ fz = 0) (hR : rel [2, 3, 4, 5, 8] [6, 7] rd q) (hbq : q.1 2 = nI b) (hbn : b ≤ len) (hdq : q.1 8 = nI d) (hdn : d ≤ 48) (en : pw.1 0 = nI n) (hn : n ≤ 24) (em : pw.1 5 = nI mq) (hm : mq ≤ 120) (htx_q : rwE (q.2 0) tx len) (hbz : q.1 4 = nI fz) (hf4 : fz ≤ 4) (hF0 : fz = 0 → RSn q pw len s1 ∧ sk tx len b = sk tx len (s1.1 12) ∧ PIb (s1.2 24) (s1.2 25) (s1.1 23) ∧ s1.1 23 ≤ 48 ∧ q.1 5 = -1 ∧ (∀ res, pEv tx len false s1 res → pEv tx len true s0 res)) (hF1 : ¬ fz = 0 → ∃ pl s2, pEv tx len true s0 (fz, pl, s2) ∧ q.1 5 = nI pl) (hk2 : k ≤ 240), (240 - k < n56m) → ∀ (H : Heap) (locs : List Loc) (ls : Array Slot), PP G (rv G h q pw) H → va_D A (rv G h q pw) → va_S A s.heap H locs → lv_has ls 2 [(0, .ref (h 0)), (1, .int (nI k))] → W p l e (headSpec wsX1_readAll ({ frames := 5, cells := 0, slots := 0, locals := 117 })).room s m ([.ref (h 0)] : List Value).toArray below meth c H locs 0 0 (MQ below (va_Qi (fun (r : Int32) (v : oS × oS) => ∃ q p res, v = (q, p) ∧ pEv tx len true s0 res ∧ q.1 1 = nI 0 ∧ q.1 4 = nI res.1 ∧ r = nI res.1 ∧ (∃ n m, p.1 0 = nI n ∧ n ≤ 24 ∧ p.1 5 = nI m ∧ m ≤ 120) ∧ (¬ res.1 = 0 → q.1 5 = nI res.2.1) ∧ (res.1 = 0 → q.1 5 = -1 ∧ WovC p res.2.2) ∧ res.1 ≤ 4) (fun v t => PP G (rv G h v.1 v.2) t.heap) A) ([.ref (h 0)] : List Value).toArray s 0 0 A) (F0 m 56 ls []) := by
              intro n56m
              induction n56m with
              | zero => intro k q pw s1 fz b d n mq hk hR hbq hbn hdq hdn en hn em hm htx_q hbz hf4 hF0 hF1 hk2 hmu H locs ls hP hD hS hl; exact absurd hmu (Nat.not_lt_zero _)
              | succ n56m ih56 =>
                intro k q pw s1 fz b d n mq hk hR hbq hbn hdq hdn en hn em hm htx_q hbz hf4 hF0 hF1 hk2 hmu H locs ls hP hD hS hl
                refine lv_iload_n hx hb dX1_readAll_56 rfl (lv_at hl 1 rfl) ?_
                refine lv_sipush (v := nI 240) hx hb dX1_readAll_57 (by decide) ?_
                refine lv_icmp_ge (tgt := 85) hx hb dX1_readAll_60 (by decide) (fun c60 => ?_) (fun c60 => ?_)
                · skip
                  have n60 : 240 ≤ k := (nI_leI (a := 240) (b := k) (by omega) (by omega)).mp c60
                  rcases Nat.eq_zero_or_pos fz with hz | hz
                  · skip
                    subst hz
                    obtain ⟨⟨e1, e8, e0, e5, ⟨q240, qa, qv, ql, qd, qpar⟩, hrw⟩, hskb, hPb, hd48, h5, hEv⟩ := hF0 rfl
                    have hend : ¬ sk tx len (s1.1 12) < len := by rw [← hskb]; have h9 : b ≤ sk tx len b := rn_ge _; omega
                    refine lv_aload_n hx hb dX1_readAll_85 rfl (lv_at hl 0 rfl) ?_
                    refine va_get (D := gD G) (ci := 1) (v := .int (q.1 8)) (C := RX1) (T := TX1) (N := 10) hx hb hts hiX1 hown hK hP 0 rfl rfl 8 (by decide) k38 (fun _ h9 => h9) rfl dX1_readAll_86 ?_
                    refine topE e8 ?_
                    refine lv_if_le (tgt := 101) hx hb dX1_readAll_89 (by decide) (fun c89 => ?_) (fun c89 => ?_)
                    · skip
                      have n89 : (s1.1 23) ≤ 0 := (nI_leI (a := s1.1 23) (b := 0) (by omega) (by omega)).mp c89
                      refine lv_aload_n hx hb dX1_readAll_101 rfl (lv_at hl 0 rfl) ?_
                      refine lv_iconst (v := nI 0) hx hb dX1_readAll_102 (by decide) ?_
                      refine va_put (D := gD G) (ci := 1) (v := .int (nI 0)) (ty := .int) (C := RX1) (T := TX1) (N := 10) hx hb hts hiX1 tyX1 tyX1_ok nmX1 hown hK hP hD hS 0 rfl rfl 1 (by decide) k15 (fun _ h9 => h9) rfl (tyX1_ok 1 (by decide)) (rfl) (rfl) (Nat.le_of_ble_eq_true rfl) dX1_readAll_103 (fun H locs hP hD hS => ?_)
                      have hP : PP G (rv G h (oI q 1 (nI 0)) pw) H := hP
                      have hD : va_D A (rv G h (oI q 1 (nI 0)) pw) := hD
                      refine lv_aload_n hx hb dX1_readAll_106 rfl (lv_at hl 0 rfl) ?_
                      refine va_get (D := gD G) (ci := 1) (v := .int (q.1 4)) (C := RX1) (T := TX1) (N := 10) hx hb hts hiX1 hown hK hP 0 rfl rfl 4 (by decide) k25 (fun _ h9 => h9) rfl dX1_readAll_107 ?_
                      refine topE hbz ?_
                      exact W.iret (v := nI 0) hx hb hr (fun t ht hW => ⟨⟨nI 0, (oI q 1 (nI 0), pw), rfl, ⟨_, _, (0, 0, s1), rfl, hEv _ (pEv_0 hend (by omega)), rfl, hbz, rfl, ⟨s1.1 15, s1.1 19, e0, by omega, e5, by omega⟩, fun q9 => absurd rfl q9, fun _ => ⟨h5, ⟨e0, e5, qv, ql, qpar, hrw.1, hrw.2.1, hrw.2.2.1, hrw.2.2.2.1, hrw.2.2.2.2.1, hrw.2.2.2.2.2.1, hrw.2.2.2.2.2.2.2.2⟩⟩, Nat.zero_le _⟩, show PP G (rv G h (oI q 1 (nI 0)) pw) t.heap by rw [ht]; exact hP⟩, hS.F ht⟩) hS.2.2 dX1_readAll_110
                    · skip
                      have n89 : ¬ ((s1.1 23) ≤ 0) := fun q9 => c89 ((nI_leI (a := s1.1 23) (b := 0) (by omega) (by omega)).mpr q9)
                      refine lv_aload_n hx hb dX1_readAll_92 rfl (lv_at hl 0 rfl) ?_
                      refine lv_iconst (v := nI 1) hx hb dX1_readAll_93 (by decide) ?_
                      refine lv_aload_n hx hb dX1_readAll_94 rfl (lv_at hl 0 rfl) ?_
                      refine va_get (D := gD G) (ci := 1) (v := .int (q.1 1)) (C := RX1) (T := TX1) (N := 10) hx hb hts hiX1 hown hK hP 0 rfl rfl 1 (by decide) k15 (fun _ h9 => h9) rfl dX1_readAll_95 ?_
                      refine topE e1 ?_
                      refine cXv (As := [.int (nI 1), .int (nI len)]) (rest := []) (S := oS × oS) (wa := rv G h q pw) (w1 := fun v => rv G h v.1 v.2) ⟨hx, hb, hml, hown, hts⟩ (mt_X1_fail0 l G h _ q pw (nI 1) (nI len) (hbz)) (cwV 2 hts gX1_readAll_X1_fail rfl rfl rfl ⟨rfl, hd_X1_fail⟩ ⟨Nat.le_of_ble_eq_true rfl, Nat.le_of_ble_eq_true rfl⟩) hK hN hP hD hS hA (fun _ => rfl) 0 1 rfl rfl rfl hl.1 rfl (Nat.le_of_ble_eq_true rfl) ⟨Nat.zero_le _, Nat.zero_le _⟩ dX1_readAll_98 (fun u98 H locs hw98 hP hD hS => ?_)
                      obtain rfl := hw98
                      have hP : PP G (rv G h (oI (oI q 4 (nI 1)) 5 (nI len)) pw) H := hP
                      have hD : va_D A (rv G h (oI (oI q 4 (nI 1)) 5 (nI len)) pw) := hD
                      refine lv_aload_n hx hb dX1_readAll_101 rfl (lv_at hl 0 rfl) ?_
                      refine lv_iconst (v := nI 0) hx hb dX1_readAll_102 (by decide) ?_
                      refine va_put (D := gD G) (ci := 1) (v := .int (nI 0)) (ty := .int) (C := RX1) (T := TX1) (N := 10) hx hb hts hiX1 tyX1 tyX1_ok nmX1 hown hK hP hD hS 0 rfl rfl 1 (by decide) k15 (fun _ h9 => h9) rfl (tyX1_ok 1 (by decide)) (rfl) (rfl) (Nat.le_of_ble_eq_true rfl) dX1_readAll_103 (fun H locs hP hD hS => ?_)
                      have hP : PP G (rv G h (oI (oI (oI q 4 (nI 1)) 5 (nI len)) 1 (nI 0)) pw) H := hP
                      have hD : va_D A (rv G h (oI (oI (oI q 4 (nI 1)) 5 (nI len)) 1 (nI 0)) pw) := hD
                      refine lv_aload_n hx hb dX1_readAll_106 rfl (lv_at hl 0 rfl) ?_
                      refine va_get (D := gD G) (ci := 1) (v := .int (nI 1)) (C := RX1) (T := TX1) (N := 10) hx hb hts hiX1 hown hK hP 0 rfl rfl 4 (by decide) k25 (fun _ h9 => h9) rfl dX1_readAll_107 ?_
                      exact W.iret (v := nI 1) hx hb hr (fun t ht hW => ⟨⟨nI 1, (oI (oI (oI q 4 (nI 1)) 5 (nI len)) 1 (nI 0), pw), rfl, ⟨_, _, (1, len, s1), rfl, hEv _ (pEv_1 hend (by omega)), rfl, rfl, rfl, ⟨s1.1 15, s1.1 19, e0, by omega, e5, by omega⟩, fun _ => rfl, fun q9 => absurd q9 (show ¬ (1 : Nat) = 0 by decide), (show 1 ≤ 4 by omega)⟩, show PP G (rv G h (oI (oI (oI q 4 (nI 1)) 5 (nI len)) 1 (nI 0)) pw) t.heap by rw [ht]; exact hP⟩, hS.F ht⟩) hS.2.2 dX1_readAll_110
                  · skip
                    refine lv_aload_n hx hb dX1_readAll_85 rfl (lv_at hl 0 rfl) ?_
                    refine va_get (D := gD G) (ci := 1) (v := .int (q.1 8)) (C := RX1) (T := TX1) (N := 10) hx hb hts hiX1 hown hK hP 0 rfl rfl 8 (by decide) k38 (fun _ h9 => h9) rfl dX1_readAll_86 ?_
                    refine topE hdq ?_
                    refine lv_if_le (tgt := 101) hx hb dX1_readAll_89 (by decide) (fun c89 => ?_) (fun c89 => ?_)
                    · skip
                      have n89 : d ≤ 0 := (nI_leI (a := d) (b := 0) (by omega) (by omega)).mp c89
                      refine lv_aload_n hx hb dX1_readAll_101 rfl (lv_at hl 0 rfl) ?_
                      refine lv_iconst (v := nI 0) hx hb dX1_readAll_102 (by decide) ?_
                      refine va_put (D := gD G) (ci := 1) (v := .int (nI 0)) (ty := .int) (C := RX1) (T := TX1) (N := 10) hx hb hts hiX1 tyX1 tyX1_ok nmX1 hown hK hP hD hS 0 rfl rfl 1 (by decide) k15 (fun _ h9 => h9) rfl (tyX1_ok 1 (by decide)) (rfl) (rfl) (Nat.le_of_ble_eq_true rfl) dX1_readAll_103 (fun H locs hP hD hS => ?_)
                      have hP : PP G (rv G h (oI q 1 (nI 0)) pw) H := hP
                      have hD : va_D A (rv G h (oI q 1 (nI 0)) pw) := hD
                      refine lv_aload_n hx hb dX1_readAll_106 rfl (lv_at hl 0 rfl) ?_
                      refine va_get (D := gD G) (ci := 1) (v := .int (q.1 4)) (C := RX1) (T := TX1) (N := 10) hx hb hts hiX1 hown hK hP 0 rfl rfl 4 (by decide) k25 (fun _ h9 => h9) rfl dX1_readAll_107 ?_
                      refine topE hbz ?_
                      exact W.iret (v := nI fz) hx hb hr (fun t ht hW => ⟨⟨nI fz, (oI q 1 (nI 0), pw), rfl, by obtain ⟨pl9, s9, h9, h10⟩ := hF1 (by omega); exact ⟨_, _, (fz, pl9, s9), rfl, h9, rfl, hbz, rfl, ⟨n, mq, en, by omega, em, by omega⟩, fun _ => h10, fun q9 => absurd q9 (by omega), hf4⟩, show PP G (rv G h (oI q 1 (nI 0)) pw) t.heap by rw [ht]; exact hP⟩, hS.F ht⟩) hS.2.2 dX1_readAll_110
                    · skip
                      have n89 : ¬ (d ≤ 0) := fun q9 => c89 ((nI_leI (a := d) (b := 0) (by omega) (by omega)).mpr q9)
                      refine lv_aload_n hx hb dX1_readAll_92 rfl (lv_at hl 0 rfl) ?_
                      refine lv_iconst (v := nI 1) hx hb dX1_readAll_93 (by decide) ?_
                      refine lv_aload_n hx hb dX1_readAll_94 rfl (lv_at hl 0 rfl) ?_
                      refine va_get (D := gD G) (ci := 1) (v := .int (q.1 1)) (C := RX1) (T := TX1) (N := 10) hx hb hts hiX1 hown hK hP 0 rfl rfl 1 (by decide) k15 (fun _ h9 => h9) rfl dX1_readAll_95 ?_
                      refine topE ((hR.1 1 (by decide)).trans hlen) ?_
                      refine cXv (As := [.int (nI 1), .int (nI len)]) (rest := []) (S := oS × oS) (wa := rv G h q pw) (w1 := fun v => rv G h v.1 v.2) ⟨hx, hb, hml, hown, hts⟩ (mt_X1_fail1 l G h _ q pw fz (nI 1) (nI len) (hbz) (by first | assumption | omega) (by first | assumption | omega)) (cwV 2 hts gX1_readAll_X1_fail rfl rfl rfl ⟨rfl, hd_X1_fail⟩ ⟨Nat.le_of_ble_eq_true rfl, Nat.le_of_ble_eq_true rfl⟩) hK hN hP hD hS hA (fun _ => rfl) 0 1 rfl rfl rfl hl.1 rfl (Nat.le_of_ble_eq_true rfl) ⟨Nat.zero_le _, Nat.zero_le _⟩ dX1_readAll_98 (fun u98 H locs hw98 hP hD hS => ?_)
                      obtain rfl := hw98
                      have hP : PP G (rv G h q pw) H := hP
                      have hD : va_D A (rv G h q pw) := hD
                      refine lv_aload_n hx hb dX1_readAll_101 rfl (lv_at hl 0 rfl) ?_
                      refine lv_iconst (v := nI 0) hx hb dX1_readAll_102 (by decide) ?_
                      refine va_put (D := gD G) (ci := 1) (v := .int (nI 0)) (ty := .int) (C := RX1) (T := TX1) (N := 10) hx hb hts hiX1 tyX1 tyX1_ok nmX1 hown hK hP hD hS 0 rfl rfl 1 (by decide) k15 (fun _ h9 => h9) rfl (tyX1_ok 1 (by decide)) (rfl) (rfl) (Nat.le_of_ble_eq_true rfl) dX1_readAll_103 (fun H locs hP hD hS => ?_)
                      have hP : PP G (rv G h (oI q 1 (nI 0)) pw) H := hP
                      have hD : va_D A (rv G h (oI q 1 (nI 0)) pw) := hD
                      refine lv_aload_n hx hb dX1_readAll_106 rfl (lv_at hl 0 rfl) ?_
                      refine va_get (D := gD G) (ci := 1) (v := .int (q.1 4)) (C := RX1) (T := TX1) (N := 10) hx hb hts hiX1 hown hK hP 0 rfl rfl 4 (by decide) k25 (fun _ h9 => h9) rfl dX1_readAll_107 ?_
                      refine topE hbz ?_
                      exact W.iret (v := nI fz) hx hb hr (fun t ht hW => ⟨⟨nI fz, (oI q 1 (nI 0), pw), rfl, by obtain ⟨pl9, s9, h9, h10⟩ := hF1 (by omega); exact ⟨_, _, (fz, pl9, s9), rfl, h9, rfl, hbz, rfl, ⟨n, mq, en, by omega, em, by omega⟩, fun _ => h10, fun q9 => absurd q9 (by omega), hf4⟩, show PP G (rv G h (oI q 1 (nI 0)) pw) t.heap by rw [ht]; exact hP⟩, hS.F ht⟩) hS.2.2 dX1_readAll_110
                · skip
                  have n60 : ¬ (240 ≤ k) := fun q9 => c60 ((nI_leI (a := 240) (b := k) (by omega) (by omega)).mpr q9)
                  rcases Nat.eq_zero_or_pos fz with hz | hz
                  · skip
                    subst hz
                    obtain ⟨⟨e1, e8, e0, e5, ⟨q240, qa, qv, ql, qd, qpar⟩, hrw⟩, hskb, hPb, hd48, h5, hEv⟩ := hF0 rfl
                    refine lv_aload_n hx hb dX1_readAll_63 rfl (lv_at hl 0 rfl) ?_
                    refine cXi (As := []) (rest := []) (S := oS × oS) (wa := rv G h q pw) (w1 := fun v => rv G h v.1 v.2) ⟨hx, hb, hml, hown, hts⟩ (mt_X1_nextSign0 l G h _ q pw len b tx (e1) (hbq) (by first | assumption | omega) (by first | assumption | omega) (htx_q) (hbz)) (cwV 0 hts gX1_readAll_X1_nextSign rfl rfl rfl ⟨rfl, hd_X1_nextSign⟩ ⟨Nat.le_of_ble_eq_true rfl, Nat.le_of_ble_eq_true rfl⟩) hK hN hP hD hS hA (fun _ => rfl) 0 1 rfl rfl rfl hl.1 rfl (Nat.le_of_ble_eq_true rfl) ⟨Nat.zero_le _, Nat.zero_le _⟩ dX1_readAll_64 (fun r64 u64 H locs hw64 hP hD hS => ?_)
                    obtain ⟨rfl, rfl⟩ := hw64
                    have hP : PP G (rv G h (oI q 2 (nI (sk tx len b))) pw) H := hP
                    have hD : va_D A (rv G h (oI q 2 (nI (sk tx len b))) pw) := hD
                    have hge64 : b ≤ sk tx len b := rn_ge _
                    have hle64 : sk tx len b ≤ len := rn_le (by omega)
                    rw [hskb] at hP hD ⊢
                    have hgs : s1.1 12 ≤ sk tx len (s1.1 12) := rn_ge _
                    have hls : sk tx len (s1.1 12) ≤ len := rn_le (by omega)
                    refine lv_iconst (v := (-1 : Int32)) hx hb dX1_readAll_67 (by decide) ?_
                    refine lv_icmp_eq (tgt := 85) hx hb dX1_readAll_68 (by decide) (fun c68 => ?_) (fun c68 => ?_)
                    · skip
                      have hend : ¬ sk tx len (s1.1 12) < len := fun q9 => by rw [hd_in q9] at c68; obtain ⟨j9, hj9, ej9⟩ := hlet _ q9; rw [ej9] at c68; exact nI_nm1 (by omega) c68
                      refine lv_aload_n hx hb dX1_readAll_85 rfl (lv_at hl 0 rfl) ?_
                      refine va_get (D := gD G) (ci := 1) (v := .int (q.1 8)) (C := RX1) (T := TX1) (N := 10) hx hb hts hiX1 hown hK hP 0 rfl rfl 8 (by decide) k38 (fun _ h9 => h9) rfl dX1_readAll_86 ?_
                      refine topE e8 ?_
                      refine lv_if_le (tgt := 101) hx hb dX1_readAll_89 (by decide) (fun c89 => ?_) (fun c89 => ?_)
                      · skip
                        have n89 : (s1.1 23) ≤ 0 := (nI_leI (a := s1.1 23) (b := 0) (by omega) (by omega)).mp c89
                        refine lv_aload_n hx hb dX1_readAll_101 rfl (lv_at hl 0 rfl) ?_
                        refine lv_iconst (v := nI 0) hx hb dX1_readAll_102 (by decide) ?_
                        refine va_put (D := gD G) (ci := 1) (v := .int (nI 0)) (ty := .int) (C := RX1) (T := TX1) (N := 10) hx hb hts hiX1 tyX1 tyX1_ok nmX1 hown hK hP hD hS 0 rfl rfl 1 (by decide) k15 (fun _ h9 => h9) rfl (tyX1_ok 1 (by decide)) (rfl) (rfl) (Nat.le_of_ble_eq_true rfl) dX1_readAll_103 (fun H locs hP hD hS => ?_)
                        have hP : PP G (rv G h (oI (oI q 2 (nI (sk tx len (s1.1 12)))) 1 (nI 0)) pw) H := hP
                        have hD : va_D A (rv G h (oI (oI q 2 (nI (sk tx len (s1.1 12)))) 1 (nI 0)) pw) := hD
                        refine lv_aload_n hx hb dX1_readAll_106 rfl (lv_at hl 0 rfl) ?_
                        refine va_get (D := gD G) (ci := 1) (v := .int (q.1 4)) (C := RX1) (T := TX1) (N := 10) hx hb hts hiX1 hown hK hP 0 rfl rfl 4 (by decide) k25 (fun _ h9 => h9) rfl dX1_readAll_107 ?_
                        refine topE hbz ?_
                        exact W.iret (v := nI 0) hx hb hr (fun t ht hW => ⟨⟨nI 0, (oI (oI q 2 (nI (sk tx len (s1.1 12)))) 1 (nI 0), pw), rfl, ⟨_, _, (0, 0, s1), rfl, hEv _ (pEv_0 hend (by omega)), rfl, hbz, rfl, ⟨s1.1 15, s1.1 19, e0, by omega, e5, by omega⟩, fun q9 => absurd rfl q9, fun _ => ⟨h5, ⟨e0, e5, qv, ql, qpar, hrw.1, hrw.2.1, hrw.2.2.1, hrw.2.2.2.1, hrw.2.2.2.2.1, hrw.2.2.2.2.2.1, hrw.2.2.2.2.2.2.2.2⟩⟩, Nat.zero_le _⟩, show PP G (rv G h (oI (oI q 2 (nI (sk tx len (s1.1 12)))) 1 (nI 0)) pw) t.heap by rw [ht]; exact hP⟩, hS.F ht⟩) hS.2.2 dX1_readAll_110
                      · skip
                        have n89 : ¬ ((s1.1 23) ≤ 0) := fun q9 => c89 ((nI_leI (a := s1.1 23) (b := 0) (by omega) (by omega)).mpr q9)
                        refine lv_aload_n hx hb dX1_readAll_92 rfl (lv_at hl 0 rfl) ?_
                        refine lv_iconst (v := nI 1) hx hb dX1_readAll_93 (by decide) ?_
                        refine lv_aload_n hx hb dX1_readAll_94 rfl (lv_at hl 0 rfl) ?_
                        refine va_get (D := gD G) (ci := 1) (v := .int (q.1 1)) (C := RX1) (T := TX1) (N := 10) hx hb hts hiX1 hown hK hP 0 rfl rfl 1 (by decide) k15 (fun _ h9 => h9) rfl dX1_readAll_95 ?_
                        refine topE e1 ?_
                        refine cXv (As := [.int (nI 1), .int (nI len)]) (rest := []) (S := oS × oS) (wa := rv G h (oI q 2 (nI (sk tx len (s1.1 12)))) pw) (w1 := fun v => rv G h v.1 v.2) ⟨hx, hb, hml, hown, hts⟩ (mt_X1_fail0 l G h _ (oI q 2 (nI (sk tx len (s1.1 12)))) pw (nI 1) (nI len) (hbz)) (cwV 2 hts gX1_readAll_X1_fail rfl rfl rfl ⟨rfl, hd_X1_fail⟩ ⟨Nat.le_of_ble_eq_true rfl, Nat.le_of_ble_eq_true rfl⟩) hK hN hP hD hS hA (fun _ => rfl) 0 1 rfl rfl rfl hl.1 rfl (Nat.le_of_ble_eq_true rfl) ⟨Nat.zero_le _, Nat.zero_le _⟩ dX1_readAll_98 (fun u98 H locs hw98 hP hD hS => ?_)
                        obtain rfl := hw98
                        have hP : PP G (rv G h (oI (oI (oI q 2 (nI (sk tx len (s1.1 12)))) 4 (nI 1)) 5 (nI len)) pw) H := hP
                        have hD : va_D A (rv G h (oI (oI (oI q 2 (nI (sk tx len (s1.1 12)))) 4 (nI 1)) 5 (nI len)) pw) := hD
                        refine lv_aload_n hx hb dX1_readAll_101 rfl (lv_at hl 0 rfl) ?_
                        refine lv_iconst (v := nI 0) hx hb dX1_readAll_102 (by decide) ?_
                        refine va_put (D := gD G) (ci := 1) (v := .int (nI 0)) (ty := .int) (C := RX1) (T := TX1) (N := 10) hx hb hts hiX1 tyX1 tyX1_ok nmX1 hown hK hP hD hS 0 rfl rfl 1 (by decide) k15 (fun _ h9 => h9) rfl (tyX1_ok 1 (by decide)) (rfl) (rfl) (Nat.le_of_ble_eq_true rfl) dX1_readAll_103 (fun H locs hP hD hS => ?_)
                        have hP : PP G (rv G h (oI (oI (oI (oI q 2 (nI (sk tx len (s1.1 12)))) 4 (nI 1)) 5 (nI len)) 1 (nI 0)) pw) H := hP
                        have hD : va_D A (rv G h (oI (oI (oI (oI q 2 (nI (sk tx len (s1.1 12)))) 4 (nI 1)) 5 (nI len)) 1 (nI 0)) pw) := hD
                        refine lv_aload_n hx hb dX1_readAll_106 rfl (lv_at hl 0 rfl) ?_
                        refine va_get (D := gD G) (ci := 1) (v := .int (nI 1)) (C := RX1) (T := TX1) (N := 10) hx hb hts hiX1 hown hK hP 0 rfl rfl 4 (by decide) k25 (fun _ h9 => h9) rfl dX1_readAll_107 ?_
                        exact W.iret (v := nI 1) hx hb hr (fun t ht hW => ⟨⟨nI 1, (oI (oI (oI (oI q 2 (nI (sk tx len (s1.1 12)))) 4 (nI 1)) 5 (nI len)) 1 (nI 0), pw), rfl, ⟨_, _, (1, len, s1), rfl, hEv _ (pEv_1 hend (by omega)), rfl, rfl, rfl, ⟨s1.1 15, s1.1 19, e0, by omega, e5, by omega⟩, fun _ => rfl, fun q9 => absurd q9 (show ¬ (1 : Nat) = 0 by decide), (show 1 ≤ 4 by omega)⟩, show PP G (rv G h (oI (oI (oI (oI q 2 (nI (sk tx len (s1.1 12)))) 4 (nI 1)) 5 (nI len)) 1 (nI 0)) pw) t.heap by rw [ht]; exact hP⟩, hS.F ht⟩) hS.2.2 dX1_readAll_110
                    · skip
                      have hlt : sk tx len (s1.1 12) < len := hd_lt c68
                      refine lv_aload_n hx hb dX1_readAll_71 rfl (lv_at hl 0 rfl) ?_
                      refine lv_aload_n hx hb dX1_readAll_72 rfl (lv_at hl 0 rfl) ?_
                      refine cXi (As := []) (rest := [.ref (h 0)]) (S := oS × oS) (wa := rv G h (oI q 2 (nI (sk tx len (s1.1 12)))) pw) (w1 := fun v => rv G h v.1 v.2) ⟨hx, hb, hml, hown, hts⟩ (mt_X1_nextSign0 l G h _ (oI q 2 (nI (sk tx len (s1.1 12)))) pw len (sk tx len (s1.1 12)) tx (e1) (rfl) (by first | assumption | omega) (by first | assumption | omega) (htx_q) (hbz)) (cwV 0 hts gX1_readAll_X1_nextSign rfl rfl rfl ⟨rfl, hd_X1_nextSign⟩ ⟨Nat.le_of_ble_eq_true rfl, Nat.le_of_ble_eq_true rfl⟩) hK hN hP hD hS hA (fun _ => rfl) 0 1 rfl rfl rfl hl.1 rfl (Nat.le_of_ble_eq_true rfl) ⟨Nat.zero_le _, Nat.zero_le _⟩ dX1_readAll_73 (fun r73 u73 H locs hw73 hP hD hS => ?_)
                      obtain ⟨rfl, rfl⟩ := hw73
                      have hP : PP G (rv G h (oI (oI q 2 (nI (sk tx len (s1.1 12)))) 2 (nI (sk tx len (sk tx len (s1.1 12))))) pw) H := hP
                      have hD : va_D A (rv G h (oI (oI q 2 (nI (sk tx len (s1.1 12)))) 2 (nI (sk tx len (sk tx len (s1.1 12))))) pw) := hD
                      have hge73 : (sk tx len (s1.1 12)) ≤ sk tx len (sk tx len (s1.1 12)) := rn_ge _
                      have hle73 : sk tx len (sk tx len (s1.1 12)) ≤ len := rn_le (by omega)
                      rw [sk_i] at hP hD ⊢
                      refine cXv (As := [.int (hd tx len (sk tx len (s1.1 12)))]) (rest := []) (S := oS × oS) (wa := rv G h (oI (oI q 2 (nI (sk tx len (s1.1 12)))) 2 (nI (sk tx len (s1.1 12)))) pw) (w1 := fun v => rv G h v.1 v.2) ⟨hx, hb, hml, hown, hts⟩ (mt_X1_readItem l G h _ (oI (oI q 2 (nI (sk tx len (s1.1 12)))) 2 (nI (sk tx len (s1.1 12)))) pw tx len (pN s1 12 (sk tx len (s1.1 12))) (hd tx len (sk tx len (s1.1 12))) (⟨e1, rfl, e8, e0, e5, ⟨q240, (show sk tx len (s1.1 12) ≤ len by omega), qv, ql, (show s1.1 23 ≤ sk tx len (s1.1 12) by omega), qpar⟩, hrw⟩) (htx_q) (hbz) ((show sk tx len (s1.1 12) < len from hlt)) (hPb) (hd48) (rfl)) (cwV 1 hts gX1_readAll_X1_readItem rfl rfl rfl ⟨rfl, hd_X1_readItem⟩ ⟨Nat.le_of_ble_eq_true rfl, Nat.le_of_ble_eq_true rfl⟩) hK hN hP hD hS hA (fun _ => rfl) 0 1 rfl rfl rfl hl.1 rfl (Nat.le_of_ble_eq_true rfl) ⟨Nat.zero_le _, Nat.zero_le _⟩ dX1_readAll_76 (fun u76 H locs hw76 hP hD hS => ?_)
                      rcases hw76 with ⟨q76, p76, s76, rfl, hR76, hQ76, hS76, ha76, hPb76, hd76⟩ | ⟨q76, p76, f76, pl76, s76, rfl, hR76, hQ76, hp76, hg76, e476, e576, b76, d76, m76, k76, ebb76, hbb76, edd76, hdd76, enn76, hnn76, emm76, hmm76⟩
                      · skip
                        have hP : PP G (rv G h q76 p76) H := hP
                        have hD : va_D A (rv G h q76 p76) := hD
                        have htx76 : rwE (q76.2 0) tx len := by rw [hR76.2 0 (by decide)]; exact (htx_q)
                        have ha76 : sk tx len (s1.1 12) < s76.1 12 := ha76
                        refine lv_iinc (v := nI (k + 1)) (lv' := [(1, .int (nI (k + 1))), (0, .ref (h 0))]) hx hb dX1_readAll_79 hl (k := 1) rfl (nI_1 k) (by decide) rfl (fun ls hl => ?_)
                        refine lv_goto (tgt := 56) hx hb dX1_readAll_82 (by decide) ?_
                        exact ih56 (k + 1) q76 p76 s76 0 (s76.1 12) (s76.1 23) (s76.1 15) (s76.1 19) (Or.inl (by omega)) (by repeat (first | exact rel.refl _ | exact rel.mono (by assumption) (by decide) (by decide) | refine rel.I (by decide) ?_ | refine rel.A (by decide) ?_ | refine rel.trans ?_ (rel.mono (by assumption) (by decide) (by decide)))) (hS76.2.1) (hS76.2.2.2.2.2.1.2.1) (hS76.2.2.1) (hd76) (hS76.2.2.2.1) (hS76.2.2.2.2.2.1.2.2.1) (hS76.2.2.2.2.1) (hS76.2.2.2.2.2.1.2.2.2.1) (htx76) ((hR76.1 4 (by decide)).trans (hbz)) (by omega) (fun _ => ⟨hS76.n, rfl, hPb76, hd76, (hR76.1 5 (by decide)).trans h5, fun res h => hEv res (pEv_s (z := false) hlt hQ76 h)⟩) (fun q => absurd rfl q) (by first | assumption | omega) (by omega) _ _ ls hP hD hS (lv_sub hl [1, 0] rfl)
                      · skip
                        have hP : PP G (rv G h q76 p76) H := hP
                        have hD : va_D A (rv G h q76 p76) := hD
                        have htx76 : rwE (q76.2 0) tx len := by rw [hR76.2 0 (by decide)]; exact (htx_q)
                        refine lv_iinc (v := nI (k + 1)) (lv' := [(1, .int (nI (k + 1))), (0, .ref (h 0))]) hx hb dX1_readAll_79 hl (k := 1) rfl (nI_1 k) (by decide) rfl (fun ls hl => ?_)
                        refine lv_goto (tgt := 56) hx hb dX1_readAll_82 (by decide) ?_
                        exact ih56 (k + 1) q76 p76 s1 f76 b76 d76 m76 k76 (Or.inr (by omega)) (by repeat (first | exact rel.refl _ | exact rel.mono (by assumption) (by decide) (by decide) | refine rel.I (by decide) ?_ | refine rel.A (by decide) ?_ | refine rel.trans ?_ (rel.mono (by assumption) (by decide) (by decide)))) (ebb76) (by omega) (edd76) (by omega) (enn76) (by omega) (emm76) (by omega) (htx76) (e476) (by omega) (fun q => absurd q (by omega)) (fun _ => ⟨pl76, s76, hEv _ (pEv_f (z := false) hlt hQ76 (by omega)), e576⟩) (by first | assumption | omega) (by omega) _ _ ls hP hD hS (lv_sub hl [1, 0] rfl)
                  · skip
                    refine lv_aload_n hx hb dX1_readAll_63 rfl (lv_at hl 0 rfl) ?_
                    refine cXi (As := []) (rest := []) (S := oS × oS) (wa := rv G h q pw) (w1 := fun v => rv G h v.1 v.2) ⟨hx, hb, hml, hown, hts⟩ (mt_X1_nextSign1 l G h _ q pw len b fz tx ((hR.1 1 (by decide)).trans hlen) (hbq) (hbz) (by first | assumption | omega) (by first | assumption | omega) (htx_q) (by first | assumption | omega) (by first | assumption | omega)) (cwV 0 hts gX1_readAll_X1_nextSign rfl rfl rfl ⟨rfl, hd_X1_nextSign⟩ ⟨Nat.le_of_ble_eq_true rfl, Nat.le_of_ble_eq_true rfl⟩) hK hN hP hD hS hA (fun _ => rfl) 0 1 rfl rfl rfl hl.1 rfl (Nat.le_of_ble_eq_true rfl) ⟨Nat.zero_le _, Nat.zero_le _⟩ dX1_readAll_64 (fun r64 u64 H locs hw64 hP hD hS => ?_)
                    obtain ⟨rfl, rfl⟩ := hw64
                    have hP : PP G (rv G h (oI q 2 (nI (sk tx len b))) pw) H := hP
                    have hD : va_D A (rv G h (oI q 2 (nI (sk tx len b))) pw) := hD
                    have hge64 : b ≤ sk tx len b := rn_ge _
                    have hle64 : sk tx len b ≤ len := rn_le (by omega)
                    refine lv_iconst (v := (-1 : Int32)) hx hb dX1_readAll_67 (by decide) ?_
                    refine lv_icmp_eq (tgt := 85) hx hb dX1_readAll_68 (by decide) (fun _ => ?_) (fun c9 => absurd (by decide) c9)
                    refine lv_aload_n hx hb dX1_readAll_85 rfl (lv_at hl 0 rfl) ?_
                    refine va_get (D := gD G) (ci := 1) (v := .int (q.1 8)) (C := RX1) (T := TX1) (N := 10) hx hb hts hiX1 hown hK hP 0 rfl rfl 8 (by decide) k38 (fun _ h9 => h9) rfl dX1_readAll_86 ?_
                    refine topE hdq ?_
                    refine lv_if_le (tgt := 101) hx hb dX1_readAll_89 (by decide) (fun c89 => ?_) (fun c89 => ?_)
                    · skip
                      have n89 : d ≤ 0 := (nI_leI (a := d) (b := 0) (by omega) (by omega)).mp c89
                      refine lv_aload_n hx hb dX1_readAll_101 rfl (lv_at hl 0 rfl) ?_
                      refine lv_iconst (v := nI 0) hx hb dX1_readAll_102 (by decide) ?_
                      refine va_put (D := gD G) (ci := 1) (v := .int (nI 0)) (ty := .int) (C := RX1) (T := TX1) (N := 10) hx hb hts hiX1 tyX1 tyX1_ok nmX1 hown hK hP hD hS 0 rfl rfl 1 (by decide) k15 (fun _ h9 => h9) rfl (tyX1_ok 1 (by decide)) (rfl) (rfl) (Nat.le_of_ble_eq_true rfl) dX1_readAll_103 (fun H locs hP hD hS => ?_)
                      have hP : PP G (rv G h (oI (oI q 2 (nI (sk tx len b))) 1 (nI 0)) pw) H := hP
                      have hD : va_D A (rv G h (oI (oI q 2 (nI (sk tx len b))) 1 (nI 0)) pw) := hD
                      refine lv_aload_n hx hb dX1_readAll_106 rfl (lv_at hl 0 rfl) ?_
                      refine va_get (D := gD G) (ci := 1) (v := .int (q.1 4)) (C := RX1) (T := TX1) (N := 10) hx hb hts hiX1 hown hK hP 0 rfl rfl 4 (by decide) k25 (fun _ h9 => h9) rfl dX1_readAll_107 ?_
                      refine topE hbz ?_
                      exact W.iret (v := nI fz) hx hb hr (fun t ht hW => ⟨⟨nI fz, (oI (oI q 2 (nI (sk tx len b))) 1 (nI 0), pw), rfl, by obtain ⟨pl9, s9, h9, h10⟩ := hF1 (by omega); exact ⟨_, _, (fz, pl9, s9), rfl, h9, rfl, hbz, rfl, ⟨n, mq, en, by omega, em, by omega⟩, fun _ => h10, fun q9 => absurd q9 (by omega), hf4⟩, show PP G (rv G h (oI (oI q 2 (nI (sk tx len b))) 1 (nI 0)) pw) t.heap by rw [ht]; exact hP⟩, hS.F ht⟩) hS.2.2 dX1_readAll_110
                    · skip
                      have n89 : ¬ (d ≤ 0) := fun q9 => c89 ((nI_leI (a := d) (b := 0) (by omega) (by omega)).mpr q9)
                      refine lv_aload_n hx hb dX1_readAll_92 rfl (lv_at hl 0 rfl) ?_
                      refine lv_iconst (v := nI 1) hx hb dX1_readAll_93 (by decide) ?_
                      refine lv_aload_n hx hb dX1_readAll_94 rfl (lv_at hl 0 rfl) ?_
                      refine va_get (D := gD G) (ci := 1) (v := .int (q.1 1)) (C := RX1) (T := TX1) (N := 10) hx hb hts hiX1 hown hK hP 0 rfl rfl 1 (by decide) k15 (fun _ h9 => h9) rfl dX1_readAll_95 ?_
                      refine topE ((hR.1 1 (by decide)).trans hlen) ?_
                      refine cXv (As := [.int (nI 1), .int (nI len)]) (rest := []) (S := oS × oS) (wa := rv G h (oI q 2 (nI (sk tx len b))) pw) (w1 := fun v => rv G h v.1 v.2) ⟨hx, hb, hml, hown, hts⟩ (mt_X1_fail1 l G h _ (oI q 2 (nI (sk tx len b))) pw fz (nI 1) (nI len) (hbz) (by first | assumption | omega) (by first | assumption | omega)) (cwV 2 hts gX1_readAll_X1_fail rfl rfl rfl ⟨rfl, hd_X1_fail⟩ ⟨Nat.le_of_ble_eq_true rfl, Nat.le_of_ble_eq_true rfl⟩) hK hN hP hD hS hA (fun _ => rfl) 0 1 rfl rfl rfl hl.1 rfl (Nat.le_of_ble_eq_true rfl) ⟨Nat.zero_le _, Nat.zero_le _⟩ dX1_readAll_98 (fun u98 H locs hw98 hP hD hS => ?_)
                      obtain rfl := hw98
                      have hP : PP G (rv G h (oI q 2 (nI (sk tx len b))) pw) H := hP
                      have hD : va_D A (rv G h (oI q 2 (nI (sk tx len b))) pw) := hD
                      refine lv_aload_n hx hb dX1_readAll_101 rfl (lv_at hl 0 rfl) ?_
                      refine lv_iconst (v := nI 0) hx hb dX1_readAll_102 (by decide) ?_
                      refine va_put (D := gD G) (ci := 1) (v := .int (nI 0)) (ty := .int) (C := RX1) (T := TX1) (N := 10) hx hb hts hiX1 tyX1 tyX1_ok nmX1 hown hK hP hD hS 0 rfl rfl 1 (by decide) k15 (fun _ h9 => h9) rfl (tyX1_ok 1 (by decide)) (rfl) (rfl) (Nat.le_of_ble_eq_true rfl) dX1_readAll_103 (fun H locs hP hD hS => ?_)
                      have hP : PP G (rv G h (oI (oI q 2 (nI (sk tx len b))) 1 (nI 0)) pw) H := hP
                      have hD : va_D A (rv G h (oI (oI q 2 (nI (sk tx len b))) 1 (nI 0)) pw) := hD
                      refine lv_aload_n hx hb dX1_readAll_106 rfl (lv_at hl 0 rfl) ?_
                      refine va_get (D := gD G) (ci := 1) (v := .int (q.1 4)) (C := RX1) (T := TX1) (N := 10) hx hb hts hiX1 hown hK hP 0 rfl rfl 4 (by decide) k25 (fun _ h9 => h9) rfl dX1_readAll_107 ?_
                      refine topE hbz ?_
                      exact W.iret (v := nI fz) hx hb hr (fun t ht hW => ⟨⟨nI fz, (oI (oI q 2 (nI (sk tx len b))) 1 (nI 0), pw), rfl, by obtain ⟨pl9, s9, h9, h10⟩ := hF1 (by omega); exact ⟨_, _, (fz, pl9, s9), rfl, h9, rfl, hbz, rfl, ⟨n, mq, en, by omega, em, by omega⟩, fun _ => h10, fun q9 => absurd q9 (by omega), hf4⟩, show PP G (rv G h (oI (oI q 2 (nI (sk tx len b))) 1 (nI 0)) pw) t.heap by rw [ht]; exact hP⟩, hS.F ht⟩) hS.2.2 dX1_readAll_110
            exact LP56 (240 - 0 + 1) 0 (oI q 2 (nI (sk tx len (s1.1 12)))) pw s1 0 (sk tx len (s1.1 12)) (s1.1 23) (s1.1 15) (s1.1 19) (by first | exact Or.inl (Nat.zero_le _) | omega) (by repeat (first | exact rel.refl _ | exact rel.mono (by assumption) (by decide) (by decide) | refine rel.I (by decide) ?_ | refine rel.A (by decide) ?_ | refine rel.trans ?_ (rel.mono (by assumption) (by decide) (by decide)))) (rfl) (by omega) (e8) (by omega) (e0) (by omega) (e5) (by omega) (htx_q) (hbz) (by omega) (fun _ => ⟨⟨e1, e8, e0, e5, ⟨q240, qa, qv, ql, qd, qpar⟩, hrw⟩, sk_i _ _ _, hPb, hd48, h5, fun res h => hEv res (pEv_tf c41 h)⟩) (fun q => absurd rfl q) (by first | assumption | omega) (Nat.lt_succ_self _) _ _ ls hP hD hS (lv_sub hl [1, 0] rfl)
          · skip
            have hlt : sk tx len (s1.1 12) < len := hd_c c41 (by decide)
            refine lv_aload_n hx hb dX1_readAll_44 rfl (lv_at hl 0 rfl) ?_
            refine cXv (As := []) (rest := []) (S := oS × oS) (wa := rv G h (oI q 2 (nI (sk tx len (s1.1 12)))) pw) (w1 := fun v => rv G h v.1 v.2) ⟨hx, hb, hml, hown, hts⟩ (mt_X1_readOneVersion l G h _ (oI q 2 (nI (sk tx len (s1.1 12)))) pw tx len (pN s1 12 (sk tx len (s1.1 12))) (⟨e1, rfl, e8, e0, e5, ⟨q240, (show sk tx len (s1.1 12) ≤ len by omega), qv, ql, (show s1.1 23 ≤ sk tx len (s1.1 12) by omega), qpar⟩, hrw⟩) (htx_q) (hbz) ((show sk tx len (s1.1 12) < len from hlt)) (hPb) (hd48)) (cwV 0 hts gX1_readAll_X1_readOneVersion rfl rfl rfl ⟨rfl, hd_X1_readOneVersion⟩ ⟨Nat.le_of_ble_eq_true rfl, Nat.le_of_ble_eq_true rfl⟩) hK hN hP hD hS hA (fun _ => rfl) 0 1 rfl rfl rfl hl.1 rfl (Nat.le_of_ble_eq_true rfl) ⟨Nat.zero_le _, Nat.zero_le _⟩ dX1_readAll_45 (fun u45 H locs hw45 hP hD hS => ?_)
            rcases hw45 with ⟨q45, p45, s45, rfl, hR45, hQ45, hS45, ha45, hPb45, hd45⟩ | ⟨q45, p45, f45, pl45, s45, rfl, hR45, hQ45, hp45, hg45, e445, e545, b45, d45, m45, k45, ebb45, hbb45, edd45, hdd45, enn45, hnn45, emm45, hmm45⟩
            · skip
              have hP : PP G (rv G h q45 p45) H := hP
              have hD : va_D A (rv G h q45 p45) := hD
              have htx45 : rwE (q45.2 0) tx len := by rw [hR45.2 0 (by decide)]; exact (htx_q)
              refine lv_iinc (v := nI (k + 1)) (lv' := [(1, .int (nI (k + 1))), (0, .ref (h 0))]) hx hb dX1_readAll_48 hl (k := 1) rfl (nI_1 k) (by decide) rfl (fun ls hl => ?_)
              refine lv_goto (tgt := 29) hx hb dX1_readAll_51 (by decide) ?_
              exact ih29 (k + 1) q45 p45 s45 0 (s45.1 12) (s45.1 23) (s45.1 15) (s45.1 19) (by first | assumption | omega) (by repeat (first | exact rel.refl _ | exact rel.mono (by assumption) (by decide) (by decide) | refine rel.I (by decide) ?_ | refine rel.A (by decide) ?_ | refine rel.trans ?_ (rel.mono (by assumption) (by decide) (by decide)))) (hS45.2.1) (hS45.2.2.2.2.2.1.2.1) (hS45.2.2.1) (hd45) (hS45.2.2.2.1) (hS45.2.2.2.2.2.1.2.2.1) (hS45.2.2.2.2.1) (hS45.2.2.2.2.2.1.2.2.2.1) (htx45) ((hR45.1 4 (by decide)).trans (hbz)) (by omega) (fun _ => ⟨hS45.n, rfl, hPb45, hd45, (hR45.1 5 (by decide)).trans h5, fun res h => hEv res (pEv_s hlt ((pIt_v c41).1.trans hQ45) (by rw [(pIt_v c41).2]; exact h)), by rw [vST_15 hQ45]; exact congrArg (· + 1) hk15⟩) (fun q => absurd rfl q) (by omega) _ _ ls hP hD hS (lv_sub hl [1, 0] rfl)
            · skip
              have hP : PP G (rv G h q45 p45) H := hP
              have hD : va_D A (rv G h q45 p45) := hD
              have htx45 : rwE (q45.2 0) tx len := by rw [hR45.2 0 (by decide)]; exact (htx_q)
              refine lv_iinc (v := nI (k + 1)) (lv' := [(1, .int (nI (k + 1))), (0, .ref (h 0))]) hx hb dX1_readAll_48 hl (k := 1) rfl (nI_1 k) (by decide) rfl (fun ls hl => ?_)
              refine lv_goto (tgt := 29) hx hb dX1_readAll_51 (by decide) ?_
              exact ih29 (k + 1) q45 p45 s1 f45 b45 d45 m45 k45 (by first | assumption | omega) (by repeat (first | exact rel.refl _ | exact rel.mono (by assumption) (by decide) (by decide) | refine rel.I (by decide) ?_ | refine rel.A (by decide) ?_ | refine rel.trans ?_ (rel.mono (by assumption) (by decide) (by decide)))) (ebb45) (by omega) (edd45) (by omega) (enn45) (by omega) (emm45) (by omega) (htx45) (e445) (by omega) (fun q => absurd q (by omega)) (fun _ => ⟨pl45, s45, hEv _ (pEv_f hlt ((pIt_v c41).1.trans hQ45) (by omega)), e545⟩) (by omega) _ _ ls hP hD hS (lv_sub hl [1, 0] rfl)
        · skip
          refine lv_aload_n hx hb dX1_readAll_35 rfl (lv_at hl 0 rfl) ?_
          refine cXi (As := []) (rest := []) (S := oS × oS) (wa := rv G h q pw) (w1 := fun v => rv G h v.1 v.2) ⟨hx, hb, hml, hown, hts⟩ (mt_X1_nextSign1 l G h _ q pw len b fz tx ((hR.1 1 (by decide)).trans hlen) (hbq) (hbz) (by first | assumption | omega) (by first | assumption | omega) (htx_q) (by first | assumption | omega) (by first | assumption | omega)) (cwV 0 hts gX1_readAll_X1_nextSign rfl rfl rfl ⟨rfl, hd_X1_nextSign⟩ ⟨Nat.le_of_ble_eq_true rfl, Nat.le_of_ble_eq_true rfl⟩) hK hN hP hD hS hA (fun _ => rfl) 0 1 rfl rfl rfl hl.1 rfl (Nat.le_of_ble_eq_true rfl) ⟨Nat.zero_le _, Nat.zero_le _⟩ dX1_readAll_36 (fun r36 u36 H locs hw36 hP hD hS => ?_)
          obtain ⟨rfl, rfl⟩ := hw36
          have hP : PP G (rv G h (oI q 2 (nI (sk tx len b))) pw) H := hP
          have hD : va_D A (rv G h (oI q 2 (nI (sk tx len b))) pw) := hD
          have hge36 : b ≤ sk tx len b := rn_ge _
          have hle36 : sk tx len b ≤ len := rn_le (by omega)
          refine lv_bipush (v := nI 118) hx hb dX1_readAll_39 (by decide) ?_
          refine lv_icmp_ne (tgt := 54) hx hb dX1_readAll_41 (by decide) (fun _ => ?_) (fun c9 => absurd c9 (by decide))
          refine lv_iconst (v := nI 0) hx hb dX1_readAll_54 (by decide) ?_
          refine lv_istore_n (lv' := [(1, .int (nI 0)), (0, .ref (h 0))]) hx hb dX1_readAll_55 rfl hl (by decide) rfl (fun ls hl => ?_)
          have LP56 : ∀ (n56m : Nat), ∀ (k : Nat) (q : oS) (pw : oS) (s1 : pS) (fz : Nat) (b : Nat) (d : Nat) (n : Nat) (mq : Nat) (hk : k ≤ b ∨ ¬ fz = 0) (hR : rel [2, 3, 4, 5, 8] [6, 7] rd q) (hbq : q.1 2 = nI b) (hbn : b ≤ len) (hdq : q.1 8 = nI d) (hdn : d ≤ 48) (en : pw.1 0 = nI n) (hn : n ≤ 24) (em : pw.1 5 = nI mq) (hm : mq ≤ 120) (htx_q : rwE (q.2 0) tx len) (hbz : q.1 4 = nI fz) (hf4 : fz ≤ 4) (hF0 : fz = 0 → RSn q pw len s1 ∧ sk tx len b = sk tx len (s1.1 12) ∧ PIb (s1.2 24) (s1.2 25) (s1.1 23) ∧ s1.1 23 ≤ 48 ∧ q.1 5 = -1 ∧ (∀ res, pEv tx len false s1 res → pEv tx len true s0 res)) (hF1 : ¬ fz = 0 → ∃ pl s2, pEv tx len true s0 (fz, pl, s2) ∧ q.1 5 = nI pl) (hk2 : k ≤ 240), (240 - k < n56m) → ∀ (H : Heap) (locs : List Loc) (ls : Array Slot), PP G (rv G h q pw) H → va_D A (rv G h q pw) → va_S A s.heap H locs → lv_has ls 2 [(0, .ref (h 0)), (1, .int (nI k))] → W p l e (headSpec wsX1_readAll ({ frames := 5, cells := 0, slots := 0, locals := 117 })).room s m ([.ref (h 0)] : List Value).toArray below meth c H locs 0 0 (MQ below (va_Qi (fun (r : Int32) (v : oS × oS) => ∃ q p res, v = (q, p) ∧ pEv tx len true s0 res ∧ q.1 1 = nI 0 ∧ q.1 4 = nI res.1 ∧ r = nI res.1 ∧ (∃ n m, p.1 0 = nI n ∧ n ≤ 24 ∧ p.1 5 = nI m ∧ m ≤ 120) ∧ (¬ res.1 = 0 → q.1 5 = nI res.2.1) ∧ (res.1 = 0 → q.1 5 = -1 ∧ WovC p res.2.2) ∧ res.1 ≤ 4) (fun v t => PP G (rv G h v.1 v.2) t.heap) A) ([.ref (h 0)] : List Value).toArray s 0 0 A) (F0 m 56 ls []) := by
            intro n56m
            induction n56m with
            | zero => intro k q pw s1 fz b d n mq hk hR hbq hbn hdq hdn en hn em hm htx_q hbz hf4 hF0 hF1 hk2 hmu H locs ls hP hD hS hl; exact absurd hmu (Nat.not_lt_zero _)
            | succ n56m ih56 =>
              intro k q pw s1 fz b d n mq hk hR hbq hbn hdq hdn en hn em hm htx_q hbz hf4 hF0 hF1 hk2 hmu H locs ls hP hD hS hl
              refine lv_iload_n hx hb dX1_readAll_56 rfl (lv_at hl 1 rfl) ?_
              refine lv_sipush (v := nI 240) hx hb dX1_readAll_57 (by decide) ?_
              refine lv_icmp_ge (tgt := 85) hx hb dX1_readAll_60 (by decide) (fun c60 => ?_) (fun c60 => ?_)
              · skip
                have n60 : 240 ≤ k := (nI_leI (a := 240) (b := k) (by omega) (by omega)).mp c60
                rcases Nat.eq_zero_or_pos fz with hz | hz
                · skip
                  subst hz
                  obtain ⟨⟨e1, e8, e0, e5, ⟨q240, qa, qv, ql, qd, qpar⟩, hrw⟩, hskb, hPb, hd48, h5, hEv⟩ := hF0 rfl
                  have hend : ¬ sk tx len (s1.1 12) < len := by rw [← hskb]; have h9 : b ≤ sk tx len b := rn_ge _; omega
                  refine lv_aload_n hx hb dX1_readAll_85 rfl (lv_at hl 0 rfl) ?_
                  refine va_get (D := gD G) (ci := 1) (v := .int (q.1 8)) (C := RX1) (T := TX1) (N := 10) hx hb hts hiX1 hown hK hP 0 rfl rfl 8 (by decide) k38 (fun _ h9 => h9) rfl dX1_readAll_86 ?_
                  refine topE e8 ?_
                  refine lv_if_le (tgt := 101) hx hb dX1_readAll_89 (by decide) (fun c89 => ?_) (fun c89 => ?_)
                  · skip
                    have n89 : (s1.1 23) ≤ 0 := (nI_leI (a := s1.1 23) (b := 0) (by omega) (by omega)).mp c89
                    refine lv_aload_n hx hb dX1_readAll_101 rfl (lv_at hl 0 rfl) ?_
                    refine lv_iconst (v := nI 0) hx hb dX1_readAll_102 (by decide) ?_
                    refine va_put (D := gD G) (ci := 1) (v := .int (nI 0)) (ty := .int) (C := RX1) (T := TX1) (N := 10) hx hb hts hiX1 tyX1 tyX1_ok nmX1 hown hK hP hD hS 0 rfl rfl 1 (by decide) k15 (fun _ h9 => h9) rfl (tyX1_ok 1 (by decide)) (rfl) (rfl) (Nat.le_of_ble_eq_true rfl) dX1_readAll_103 (fun H locs hP hD hS => ?_)
                    have hP : PP G (rv G h (oI q 1 (nI 0)) pw) H := hP
                    have hD : va_D A (rv G h (oI q 1 (nI 0)) pw) := hD
                    refine lv_aload_n hx hb dX1_readAll_106 rfl (lv_at hl 0 rfl) ?_
                    refine va_get (D := gD G) (ci := 1) (v := .int (q.1 4)) (C := RX1) (T := TX1) (N := 10) hx hb hts hiX1 hown hK hP 0 rfl rfl 4 (by decide) k25 (fun _ h9 => h9) rfl dX1_readAll_107 ?_
                    refine topE hbz ?_
                    exact W.iret (v := nI 0) hx hb hr (fun t ht hW => ⟨⟨nI 0, (oI q 1 (nI 0), pw), rfl, ⟨_, _, (0, 0, s1), rfl, hEv _ (pEv_0 hend (by omega)), rfl, hbz, rfl, ⟨s1.1 15, s1.1 19, e0, by omega, e5, by omega⟩, fun q9 => absurd rfl q9, fun _ => ⟨h5, ⟨e0, e5, qv, ql, qpar, hrw.1, hrw.2.1, hrw.2.2.1, hrw.2.2.2.1, hrw.2.2.2.2.1, hrw.2.2.2.2.2.1, hrw.2.2.2.2.2.2.2.2⟩⟩, Nat.zero_le _⟩, show PP G (rv G h (oI q 1 (nI 0)) pw) t.heap by rw [ht]; exact hP⟩, hS.F ht⟩) hS.2.2 dX1_readAll_110
                  · skip
                    have n89 : ¬ ((s1.1 23) ≤ 0) := fun q9 => c89 ((nI_leI (a := s1.1 23) (b := 0) (by omega) (by omega)).mpr q9)
                    refine lv_aload_n hx hb dX1_readAll_92 rfl (lv_at hl 0 rfl) ?_
                    refine lv_iconst (v := nI 1) hx hb dX1_readAll_93 (by decide) ?_
                    refine lv_aload_n hx hb dX1_readAll_94 rfl (lv_at hl 0 rfl) ?_
                    refine va_get (D := gD G) (ci := 1) (v := .int (q.1 1)) (C := RX1) (T := TX1) (N := 10) hx hb hts hiX1 hown hK hP 0 rfl rfl 1 (by decide) k15 (fun _ h9 => h9) rfl dX1_readAll_95 ?_
                    refine topE e1 ?_
                    refine cXv (As := [.int (nI 1), .int (nI len)]) (rest := []) (S := oS × oS) (wa := rv G h q pw) (w1 := fun v => rv G h v.1 v.2) ⟨hx, hb, hml, hown, hts⟩ (mt_X1_fail0 l G h _ q pw (nI 1) (nI len) (hbz)) (cwV 2 hts gX1_readAll_X1_fail rfl rfl rfl ⟨rfl, hd_X1_fail⟩ ⟨Nat.le_of_ble_eq_true rfl, Nat.le_of_ble_eq_true rfl⟩) hK hN hP hD hS hA (fun _ => rfl) 0 1 rfl rfl rfl hl.1 rfl (Nat.le_of_ble_eq_true rfl) ⟨Nat.zero_le _, Nat.zero_le _⟩ dX1_readAll_98 (fun u98 H locs hw98 hP hD hS => ?_)
                    obtain rfl := hw98
                    have hP : PP G (rv G h (oI (oI q 4 (nI 1)) 5 (nI len)) pw) H := hP
                    have hD : va_D A (rv G h (oI (oI q 4 (nI 1)) 5 (nI len)) pw) := hD
                    refine lv_aload_n hx hb dX1_readAll_101 rfl (lv_at hl 0 rfl) ?_
                    refine lv_iconst (v := nI 0) hx hb dX1_readAll_102 (by decide) ?_
                    refine va_put (D := gD G) (ci := 1) (v := .int (nI 0)) (ty := .int) (C := RX1) (T := TX1) (N := 10) hx hb hts hiX1 tyX1 tyX1_ok nmX1 hown hK hP hD hS 0 rfl rfl 1 (by decide) k15 (fun _ h9 => h9) rfl (tyX1_ok 1 (by decide)) (rfl) (rfl) (Nat.le_of_ble_eq_true rfl) dX1_readAll_103 (fun H locs hP hD hS => ?_)
                    have hP : PP G (rv G h (oI (oI (oI q 4 (nI 1)) 5 (nI len)) 1 (nI 0)) pw) H := hP
                    have hD : va_D A (rv G h (oI (oI (oI q 4 (nI 1)) 5 (nI len)) 1 (nI 0)) pw) := hD
                    refine lv_aload_n hx hb dX1_readAll_106 rfl (lv_at hl 0 rfl) ?_
                    refine va_get (D := gD G) (ci := 1) (v := .int (nI 1)) (C := RX1) (T := TX1) (N := 10) hx hb hts hiX1 hown hK hP 0 rfl rfl 4 (by decide) k25 (fun _ h9 => h9) rfl dX1_readAll_107 ?_
                    exact W.iret (v := nI 1) hx hb hr (fun t ht hW => ⟨⟨nI 1, (oI (oI (oI q 4 (nI 1)) 5 (nI len)) 1 (nI 0), pw), rfl, ⟨_, _, (1, len, s1), rfl, hEv _ (pEv_1 hend (by omega)), rfl, rfl, rfl, ⟨s1.1 15, s1.1 19, e0, by omega, e5, by omega⟩, fun _ => rfl, fun q9 => absurd q9 (show ¬ (1 : Nat) = 0 by decide), (show 1 ≤ 4 by omega)⟩, show PP G (rv G h (oI (oI (oI q 4 (nI 1)) 5 (nI len)) 1 (nI 0)) pw) t.heap by rw [ht]; exact hP⟩, hS.F ht⟩) hS.2.2 dX1_readAll_110
                · skip
                  refine lv_aload_n hx hb dX1_readAll_85 rfl (lv_at hl 0 rfl) ?_
                  refine va_get (D := gD G) (ci := 1) (v := .int (q.1 8)) (C := RX1) (T := TX1) (N := 10) hx hb hts hiX1 hown hK hP 0 rfl rfl 8 (by decide) k38 (fun _ h9 => h9) rfl dX1_readAll_86 ?_
                  refine topE hdq ?_
                  refine lv_if_le (tgt := 101) hx hb dX1_readAll_89 (by decide) (fun c89 => ?_) (fun c89 => ?_)
                  · skip
                    have n89 : d ≤ 0 := (nI_leI (a := d) (b := 0) (by omega) (by omega)).mp c89
                    refine lv_aload_n hx hb dX1_readAll_101 rfl (lv_at hl 0 rfl) ?_
                    refine lv_iconst (v := nI 0) hx hb dX1_readAll_102 (by decide) ?_
                    refine va_put (D := gD G) (ci := 1) (v := .int (nI 0)) (ty := .int) (C := RX1) (T := TX1) (N := 10) hx hb hts hiX1 tyX1 tyX1_ok nmX1 hown hK hP hD hS 0 rfl rfl 1 (by decide) k15 (fun _ h9 => h9) rfl (tyX1_ok 1 (by decide)) (rfl) (rfl) (Nat.le_of_ble_eq_true rfl) dX1_readAll_103 (fun H locs hP hD hS => ?_)
                    have hP : PP G (rv G h (oI q 1 (nI 0)) pw) H := hP
                    have hD : va_D A (rv G h (oI q 1 (nI 0)) pw) := hD
                    refine lv_aload_n hx hb dX1_readAll_106 rfl (lv_at hl 0 rfl) ?_
                    refine va_get (D := gD G) (ci := 1) (v := .int (q.1 4)) (C := RX1) (T := TX1) (N := 10) hx hb hts hiX1 hown hK hP 0 rfl rfl 4 (by decide) k25 (fun _ h9 => h9) rfl dX1_readAll_107 ?_
                    refine topE hbz ?_
                    exact W.iret (v := nI fz) hx hb hr (fun t ht hW => ⟨⟨nI fz, (oI q 1 (nI 0), pw), rfl, by obtain ⟨pl9, s9, h9, h10⟩ := hF1 (by omega); exact ⟨_, _, (fz, pl9, s9), rfl, h9, rfl, hbz, rfl, ⟨n, mq, en, by omega, em, by omega⟩, fun _ => h10, fun q9 => absurd q9 (by omega), hf4⟩, show PP G (rv G h (oI q 1 (nI 0)) pw) t.heap by rw [ht]; exact hP⟩, hS.F ht⟩) hS.2.2 dX1_readAll_110
                  · skip
                    have n89 : ¬ (d ≤ 0) := fun q9 => c89 ((nI_leI (a := d) (b := 0) (by omega) (by omega)).mpr q9)
                    refine lv_aload_n hx hb dX1_readAll_92 rfl (lv_at hl 0 rfl) ?_
                    refine lv_iconst (v := nI 1) hx hb dX1_readAll_93 (by decide) ?_
                    refine lv_aload_n hx hb dX1_readAll_94 rfl (lv_at hl 0 rfl) ?_
                    refine va_get (D := gD G) (ci := 1) (v := .int (q.1 1)) (C := RX1) (T := TX1) (N := 10) hx hb hts hiX1 hown hK hP 0 rfl rfl 1 (by decide) k15 (fun _ h9 => h9) rfl dX1_readAll_95 ?_
                    refine topE ((hR.1 1 (by decide)).trans hlen) ?_
                    refine cXv (As := [.int (nI 1), .int (nI len)]) (rest := []) (S := oS × oS) (wa := rv G h q pw) (w1 := fun v => rv G h v.1 v.2) ⟨hx, hb, hml, hown, hts⟩ (mt_X1_fail1 l G h _ q pw fz (nI 1) (nI len) (hbz) (by first | assumption | omega) (by first | assumption | omega)) (cwV 2 hts gX1_readAll_X1_fail rfl rfl rfl ⟨rfl, hd_X1_fail⟩ ⟨Nat.le_of_ble_eq_true rfl, Nat.le_of_ble_eq_true rfl⟩) hK hN hP hD hS hA (fun _ => rfl) 0 1 rfl rfl rfl hl.1 rfl (Nat.le_of_ble_eq_true rfl) ⟨Nat.zero_le _, Nat.zero_le _⟩ dX1_readAll_98 (fun u98 H locs hw98 hP hD hS => ?_)
                    obtain rfl := hw98
                    have hP : PP G (rv G h q pw) H := hP
                    have hD : va_D A (rv G h q pw) := hD
                    refine lv_aload_n hx hb dX1_readAll_101 rfl (lv_at hl 0 rfl) ?_
                    refine lv_iconst (v := nI 0) hx hb dX1_readAll_102 (by decide) ?_
                    refine va_put (D := gD G) (ci := 1) (v := .int (nI 0)) (ty := .int) (C := RX1) (T := TX1) (N := 10) hx hb hts hiX1 tyX1 tyX1_ok nmX1 hown hK hP hD hS 0 rfl rfl 1 (by decide) k15 (fun _ h9 => h9) rfl (tyX1_ok 1 (by decide)) (rfl) (rfl) (Nat.le_of_ble_eq_true rfl) dX1_readAll_103 (fun H locs hP hD hS => ?_)
                    have hP : PP G (rv G h (oI q 1 (nI 0)) pw) H := hP
                    have hD : va_D A (rv G h (oI q 1 (nI 0)) pw) := hD
                    refine lv_aload_n hx hb dX1_readAll_106 rfl (lv_at hl 0 rfl) ?_
                    refine va_get (D := gD G) (ci := 1) (v := .int (q.1 4)) (C := RX1) (T := TX1) (N := 10) hx hb hts hiX1 hown hK hP 0 rfl rfl 4 (by decide) k25 (fun _ h9 => h9) rfl dX1_readAll_107 ?_
                    refine topE hbz ?_
                    exact W.iret (v := nI fz) hx hb hr (fun t ht hW => ⟨⟨nI fz, (oI q 1 (nI 0), pw), rfl, by obtain ⟨pl9, s9, h9, h10⟩ := hF1 (by omega); exact ⟨_, _, (fz, pl9, s9), rfl, h9, rfl, hbz, rfl, ⟨n, mq, en, by omega, em, by omega⟩, fun _ => h10, fun q9 => absurd q9 (by omega), hf4⟩, show PP G (rv G h (oI q 1 (nI 0)) pw) t.heap by rw [ht]; exact hP⟩, hS.F ht⟩) hS.2.2 dX1_readAll_110
              · skip
                have n60 : ¬ (240 ≤ k) := fun q9 => c60 ((nI_leI (a := 240) (b := k) (by omega) (by omega)).mpr q9)
                rcases Nat.eq_zero_or_pos fz with hz | hz
                · skip
                  subst hz
                  obtain ⟨⟨e1, e8, e0, e5, ⟨q240, qa, qv, ql, qd, qpar⟩, hrw⟩, hskb, hPb, hd48, h5, hEv⟩ := hF0 rfl
                  refine lv_aload_n hx hb dX1_readAll_63 rfl (lv_at hl 0 rfl) ?_
                  refine cXi (As := []) (rest := []) (S := oS × oS) (wa := rv G h q pw) (w1 := fun v => rv G h v.1 v.2) ⟨hx, hb, hml, hown, hts⟩ (mt_X1_nextSign0 l G h _ q pw len b tx (e1) (hbq) (by first | assumption | omega) (by first | assumption | omega) (htx_q) (hbz)) (cwV 0 hts gX1_readAll_X1_nextSign rfl rfl rfl ⟨rfl, hd_X1_nextSign⟩ ⟨Nat.le_of_ble_eq_true rfl, Nat.le_of_ble_eq_true rfl⟩) hK hN hP hD hS hA (fun _ => rfl) 0 1 rfl rfl rfl hl.1 rfl (Nat.le_of_ble_eq_true rfl) ⟨Nat.zero_le _, Nat.zero_le _⟩ dX1_readAll_64 (fun r64 u64 H locs hw64 hP hD hS => ?_)
                  obtain ⟨rfl, rfl⟩ := hw64
                  have hP : PP G (rv G h (oI q 2 (nI (sk tx len b))) pw) H := hP
                  have hD : va_D A (rv G h (oI q 2 (nI (sk tx len b))) pw) := hD
                  have hge64 : b ≤ sk tx len b := rn_ge _
                  have hle64 : sk tx len b ≤ len := rn_le (by omega)
                  rw [hskb] at hP hD ⊢
                  have hgs : s1.1 12 ≤ sk tx len (s1.1 12) := rn_ge _
                  have hls : sk tx len (s1.1 12) ≤ len := rn_le (by omega)
                  refine lv_iconst (v := (-1 : Int32)) hx hb dX1_readAll_67 (by decide) ?_
                  refine lv_icmp_eq (tgt := 85) hx hb dX1_readAll_68 (by decide) (fun c68 => ?_) (fun c68 => ?_)
                  · skip
                    have hend : ¬ sk tx len (s1.1 12) < len := fun q9 => by rw [hd_in q9] at c68; obtain ⟨j9, hj9, ej9⟩ := hlet _ q9; rw [ej9] at c68; exact nI_nm1 (by omega) c68
                    refine lv_aload_n hx hb dX1_readAll_85 rfl (lv_at hl 0 rfl) ?_
                    refine va_get (D := gD G) (ci := 1) (v := .int (q.1 8)) (C := RX1) (T := TX1) (N := 10) hx hb hts hiX1 hown hK hP 0 rfl rfl 8 (by decide) k38 (fun _ h9 => h9) rfl dX1_readAll_86 ?_
                    refine topE e8 ?_
                    refine lv_if_le (tgt := 101) hx hb dX1_readAll_89 (by decide) (fun c89 => ?_) (fun c89 => ?_)
                    · skip
                      have n89 : (s1.1 23) ≤ 0 := (nI_leI (a := s1.1 23) (b := 0) (by omega) (by omega)).mp c89
                      refine lv_aload_n hx hb dX1_readAll_101 rfl (lv_at hl 0 rfl) ?_
                      refine lv_iconst (v := nI 0) hx hb dX1_readAll_102 (by decide) ?_
                      refine va_put (D := gD G) (ci := 1) (v := .int (nI 0)) (ty := .int) (C := RX1) (T := TX1) (N := 10) hx hb hts hiX1 tyX1 tyX1_ok nmX1 hown hK hP hD hS 0 rfl rfl 1 (by decide) k15 (fun _ h9 => h9) rfl (tyX1_ok 1 (by decide)) (rfl) (rfl) (Nat.le_of_ble_eq_true rfl) dX1_readAll_103 (fun H locs hP hD hS => ?_)
                      have hP : PP G (rv G h (oI (oI q 2 (nI (sk tx len (s1.1 12)))) 1 (nI 0)) pw) H := hP
                      have hD : va_D A (rv G h (oI (oI q 2 (nI (sk tx len (s1.1 12)))) 1 (nI 0)) pw) := hD
                      refine lv_aload_n hx hb dX1_readAll_106 rfl (lv_at hl 0 rfl) ?_
                      refine va_get (D := gD G) (ci := 1) (v := .int (q.1 4)) (C := RX1) (T := TX1) (N := 10) hx hb hts hiX1 hown hK hP 0 rfl rfl 4 (by decide) k25 (fun _ h9 => h9) rfl dX1_readAll_107 ?_
                      refine topE hbz ?_
                      exact W.iret (v := nI 0) hx hb hr (fun t ht hW => ⟨⟨nI 0, (oI (oI q 2 (nI (sk tx len (s1.1 12)))) 1 (nI 0), pw), rfl, ⟨_, _, (0, 0, s1), rfl, hEv _ (pEv_0 hend (by omega)), rfl, hbz, rfl, ⟨s1.1 15, s1.1 19, e0, by omega, e5, by omega⟩, fun q9 => absurd rfl q9, fun _ => ⟨h5, ⟨e0, e5, qv, ql, qpar, hrw.1, hrw.2.1, hrw.2.2.1, hrw.2.2.2.1, hrw.2.2.2.2.1, hrw.2.2.2.2.2.1, hrw.2.2.2.2.2.2.2.2⟩⟩, Nat.zero_le _⟩, show PP G (rv G h (oI (oI q 2 (nI (sk tx len (s1.1 12)))) 1 (nI 0)) pw) t.heap by rw [ht]; exact hP⟩, hS.F ht⟩) hS.2.2 dX1_readAll_110
                    · skip
                      have n89 : ¬ ((s1.1 23) ≤ 0) := fun q9 => c89 ((nI_leI (a := s1.1 23) (b := 0) (by omega) (by omega)).mpr q9)
                      refine lv_aload_n hx hb dX1_readAll_92 rfl (lv_at hl 0 rfl) ?_
                      refine lv_iconst (v := nI 1) hx hb dX1_readAll_93 (by decide) ?_
                      refine lv_aload_n hx hb dX1_readAll_94 rfl (lv_at hl 0 rfl) ?_
                      refine va_get (D := gD G) (ci := 1) (v := .int (q.1 1)) (C := RX1) (T := TX1) (N := 10) hx hb hts hiX1 hown hK hP 0 rfl rfl 1 (by decide) k15 (fun _ h9 => h9) rfl dX1_readAll_95 ?_
                      refine topE e1 ?_
                      refine cXv (As := [.int (nI 1), .int (nI len)]) (rest := []) (S := oS × oS) (wa := rv G h (oI q 2 (nI (sk tx len (s1.1 12)))) pw) (w1 := fun v => rv G h v.1 v.2) ⟨hx, hb, hml, hown, hts⟩ (mt_X1_fail0 l G h _ (oI q 2 (nI (sk tx len (s1.1 12)))) pw (nI 1) (nI len) (hbz)) (cwV 2 hts gX1_readAll_X1_fail rfl rfl rfl ⟨rfl, hd_X1_fail⟩ ⟨Nat.le_of_ble_eq_true rfl, Nat.le_of_ble_eq_true rfl⟩) hK hN hP hD hS hA (fun _ => rfl) 0 1 rfl rfl rfl hl.1 rfl (Nat.le_of_ble_eq_true rfl) ⟨Nat.zero_le _, Nat.zero_le _⟩ dX1_readAll_98 (fun u98 H locs hw98 hP hD hS => ?_)
                      obtain rfl := hw98
                      have hP : PP G (rv G h (oI (oI (oI q 2 (nI (sk tx len (s1.1 12)))) 4 (nI 1)) 5 (nI len)) pw) H := hP
                      have hD : va_D A (rv G h (oI (oI (oI q 2 (nI (sk tx len (s1.1 12)))) 4 (nI 1)) 5 (nI len)) pw) := hD
                      refine lv_aload_n hx hb dX1_readAll_101 rfl (lv_at hl 0 rfl) ?_
                      refine lv_iconst (v := nI 0) hx hb dX1_readAll_102 (by decide) ?_
                      refine va_put (D := gD G) (ci := 1) (v := .int (nI 0)) (ty := .int) (C := RX1) (T := TX1) (N := 10) hx hb hts hiX1 tyX1 tyX1_ok nmX1 hown hK hP hD hS 0 rfl rfl 1 (by decide) k15 (fun _ h9 => h9) rfl (tyX1_ok 1 (by decide)) (rfl) (rfl) (Nat.le_of_ble_eq_true rfl) dX1_readAll_103 (fun H locs hP hD hS => ?_)
                      have hP : PP G (rv G h (oI (oI (oI (oI q 2 (nI (sk tx len (s1.1 12)))) 4 (nI 1)) 5 (nI len)) 1 (nI 0)) pw) H := hP
                      have hD : va_D A (rv G h (oI (oI (oI (oI q 2 (nI (sk tx len (s1.1 12)))) 4 (nI 1)) 5 (nI len)) 1 (nI 0)) pw) := hD
                      refine lv_aload_n hx hb dX1_readAll_106 rfl (lv_at hl 0 rfl) ?_
                      refine va_get (D := gD G) (ci := 1) (v := .int (nI 1)) (C := RX1) (T := TX1) (N := 10) hx hb hts hiX1 hown hK hP 0 rfl rfl 4 (by decide) k25 (fun _ h9 => h9) rfl dX1_readAll_107 ?_
                      exact W.iret (v := nI 1) hx hb hr (fun t ht hW => ⟨⟨nI 1, (oI (oI (oI (oI q 2 (nI (sk tx len (s1.1 12)))) 4 (nI 1)) 5 (nI len)) 1 (nI 0), pw), rfl, ⟨_, _, (1, len, s1), rfl, hEv _ (pEv_1 hend (by omega)), rfl, rfl, rfl, ⟨s1.1 15, s1.1 19, e0, by omega, e5, by omega⟩, fun _ => rfl, fun q9 => absurd q9 (show ¬ (1 : Nat) = 0 by decide), (show 1 ≤ 4 by omega)⟩, show PP G (rv G h (oI (oI (oI (oI q 2 (nI (sk tx len (s1.1 12)))) 4 (nI 1)) 5 (nI len)) 1 (nI 0)) pw) t.heap by rw [ht]; exact hP⟩, hS.F ht⟩) hS.2.2 dX1_readAll_110
                  · skip
                    have hlt : sk tx len (s1.1 12) < len := hd_lt c68
                    refine lv_aload_n hx hb dX1_readAll_71 rfl (lv_at hl 0 rfl) ?_
                    refine lv_aload_n hx hb dX1_readAll_72 rfl (lv_at hl 0 rfl) ?_
                    refine cXi (As := []) (rest := [.ref (h 0)]) (S := oS × oS) (wa := rv G h (oI q 2 (nI (sk tx len (s1.1 12)))) pw) (w1 := fun v => rv G h v.1 v.2) ⟨hx, hb, hml, hown, hts⟩ (mt_X1_nextSign0 l G h _ (oI q 2 (nI (sk tx len (s1.1 12)))) pw len (sk tx len (s1.1 12)) tx (e1) (rfl) (by first | assumption | omega) (by first | assumption | omega) (htx_q) (hbz)) (cwV 0 hts gX1_readAll_X1_nextSign rfl rfl rfl ⟨rfl, hd_X1_nextSign⟩ ⟨Nat.le_of_ble_eq_true rfl, Nat.le_of_ble_eq_true rfl⟩) hK hN hP hD hS hA (fun _ => rfl) 0 1 rfl rfl rfl hl.1 rfl (Nat.le_of_ble_eq_true rfl) ⟨Nat.zero_le _, Nat.zero_le _⟩ dX1_readAll_73 (fun r73 u73 H locs hw73 hP hD hS => ?_)
                    obtain ⟨rfl, rfl⟩ := hw73
                    have hP : PP G (rv G h (oI (oI q 2 (nI (sk tx len (s1.1 12)))) 2 (nI (sk tx len (sk tx len (s1.1 12))))) pw) H := hP
                    have hD : va_D A (rv G h (oI (oI q 2 (nI (sk tx len (s1.1 12)))) 2 (nI (sk tx len (sk tx len (s1.1 12))))) pw) := hD
                    have hge73 : (sk tx len (s1.1 12)) ≤ sk tx len (sk tx len (s1.1 12)) := rn_ge _
                    have hle73 : sk tx len (sk tx len (s1.1 12)) ≤ len := rn_le (by omega)
                    rw [sk_i] at hP hD ⊢
                    refine cXv (As := [.int (hd tx len (sk tx len (s1.1 12)))]) (rest := []) (S := oS × oS) (wa := rv G h (oI (oI q 2 (nI (sk tx len (s1.1 12)))) 2 (nI (sk tx len (s1.1 12)))) pw) (w1 := fun v => rv G h v.1 v.2) ⟨hx, hb, hml, hown, hts⟩ (mt_X1_readItem l G h _ (oI (oI q 2 (nI (sk tx len (s1.1 12)))) 2 (nI (sk tx len (s1.1 12)))) pw tx len (pN s1 12 (sk tx len (s1.1 12))) (hd tx len (sk tx len (s1.1 12))) (⟨e1, rfl, e8, e0, e5, ⟨q240, (show sk tx len (s1.1 12) ≤ len by omega), qv, ql, (show s1.1 23 ≤ sk tx len (s1.1 12) by omega), qpar⟩, hrw⟩) (htx_q) (hbz) ((show sk tx len (s1.1 12) < len from hlt)) (hPb) (hd48) (rfl)) (cwV 1 hts gX1_readAll_X1_readItem rfl rfl rfl ⟨rfl, hd_X1_readItem⟩ ⟨Nat.le_of_ble_eq_true rfl, Nat.le_of_ble_eq_true rfl⟩) hK hN hP hD hS hA (fun _ => rfl) 0 1 rfl rfl rfl hl.1 rfl (Nat.le_of_ble_eq_true rfl) ⟨Nat.zero_le _, Nat.zero_le _⟩ dX1_readAll_76 (fun u76 H locs hw76 hP hD hS => ?_)
                    rcases hw76 with ⟨q76, p76, s76, rfl, hR76, hQ76, hS76, ha76, hPb76, hd76⟩ | ⟨q76, p76, f76, pl76, s76, rfl, hR76, hQ76, hp76, hg76, e476, e576, b76, d76, m76, k76, ebb76, hbb76, edd76, hdd76, enn76, hnn76, emm76, hmm76⟩
                    · skip
                      have hP : PP G (rv G h q76 p76) H := hP
                      have hD : va_D A (rv G h q76 p76) := hD
                      have htx76 : rwE (q76.2 0) tx len := by rw [hR76.2 0 (by decide)]; exact (htx_q)
                      have ha76 : sk tx len (s1.1 12) < s76.1 12 := ha76
                      refine lv_iinc (v := nI (k + 1)) (lv' := [(1, .int (nI (k + 1))), (0, .ref (h 0))]) hx hb dX1_readAll_79 hl (k := 1) rfl (nI_1 k) (by decide) rfl (fun ls hl => ?_)
                      refine lv_goto (tgt := 56) hx hb dX1_readAll_82 (by decide) ?_
                      exact ih56 (k + 1) q76 p76 s76 0 (s76.1 12) (s76.1 23) (s76.1 15) (s76.1 19) (Or.inl (by omega)) (by repeat (first | exact rel.refl _ | exact rel.mono (by assumption) (by decide) (by decide) | refine rel.I (by decide) ?_ | refine rel.A (by decide) ?_ | refine rel.trans ?_ (rel.mono (by assumption) (by decide) (by decide)))) (hS76.2.1) (hS76.2.2.2.2.2.1.2.1) (hS76.2.2.1) (hd76) (hS76.2.2.2.1) (hS76.2.2.2.2.2.1.2.2.1) (hS76.2.2.2.2.1) (hS76.2.2.2.2.2.1.2.2.2.1) (htx76) ((hR76.1 4 (by decide)).trans (hbz)) (by omega) (fun _ => ⟨hS76.n, rfl, hPb76, hd76, (hR76.1 5 (by decide)).trans h5, fun res h => hEv res (pEv_s (z := false) hlt hQ76 h)⟩) (fun q => absurd rfl q) (by first | assumption | omega) (by omega) _ _ ls hP hD hS (lv_sub hl [1, 0] rfl)
                    · skip
                      have hP : PP G (rv G h q76 p76) H := hP
                      have hD : va_D A (rv G h q76 p76) := hD
                      have htx76 : rwE (q76.2 0) tx len := by rw [hR76.2 0 (by decide)]; exact (htx_q)
                      refine lv_iinc (v := nI (k + 1)) (lv' := [(1, .int (nI (k + 1))), (0, .ref (h 0))]) hx hb dX1_readAll_79 hl (k := 1) rfl (nI_1 k) (by decide) rfl (fun ls hl => ?_)
                      refine lv_goto (tgt := 56) hx hb dX1_readAll_82 (by decide) ?_
                      exact ih56 (k + 1) q76 p76 s1 f76 b76 d76 m76 k76 (Or.inr (by omega)) (by repeat (first | exact rel.refl _ | exact rel.mono (by assumption) (by decide) (by decide) | refine rel.I (by decide) ?_ | refine rel.A (by decide) ?_ | refine rel.trans ?_ (rel.mono (by assumption) (by decide) (by decide)))) (ebb76) (by omega) (edd76) (by omega) (enn76) (by omega) (emm76) (by omega) (htx76) (e476) (by omega) (fun q => absurd q (by omega)) (fun _ => ⟨pl76, s76, hEv _ (pEv_f (z := false) hlt hQ76 (by omega)), e576⟩) (by first | assumption | omega) (by omega) _ _ ls hP hD hS (lv_sub hl [1, 0] rfl)
                · skip
                  refine lv_aload_n hx hb dX1_readAll_63 rfl (lv_at hl 0 rfl) ?_
                  refine cXi (As := []) (rest := []) (S := oS × oS) (wa := rv G h q pw) (w1 := fun v => rv G h v.1 v.2) ⟨hx, hb, hml, hown, hts⟩ (mt_X1_nextSign1 l G h _ q pw len b fz tx ((hR.1 1 (by decide)).trans hlen) (hbq) (hbz) (by first | assumption | omega) (by first | assumption | omega) (htx_q) (by first | assumption | omega) (by first | assumption | omega)) (cwV 0 hts gX1_readAll_X1_nextSign rfl rfl rfl ⟨rfl, hd_X1_nextSign⟩ ⟨Nat.le_of_ble_eq_true rfl, Nat.le_of_ble_eq_true rfl⟩) hK hN hP hD hS hA (fun _ => rfl) 0 1 rfl rfl rfl hl.1 rfl (Nat.le_of_ble_eq_true rfl) ⟨Nat.zero_le _, Nat.zero_le _⟩ dX1_readAll_64 (fun r64 u64 H locs hw64 hP hD hS => ?_)
                  obtain ⟨rfl, rfl⟩ := hw64
                  have hP : PP G (rv G h (oI q 2 (nI (sk tx len b))) pw) H := hP
                  have hD : va_D A (rv G h (oI q 2 (nI (sk tx len b))) pw) := hD
                  have hge64 : b ≤ sk tx len b := rn_ge _
                  have hle64 : sk tx len b ≤ len := rn_le (by omega)
                  refine lv_iconst (v := (-1 : Int32)) hx hb dX1_readAll_67 (by decide) ?_
                  refine lv_icmp_eq (tgt := 85) hx hb dX1_readAll_68 (by decide) (fun _ => ?_) (fun c9 => absurd (by decide) c9)
                  refine lv_aload_n hx hb dX1_readAll_85 rfl (lv_at hl 0 rfl) ?_
                  refine va_get (D := gD G) (ci := 1) (v := .int (q.1 8)) (C := RX1) (T := TX1) (N := 10) hx hb hts hiX1 hown hK hP 0 rfl rfl 8 (by decide) k38 (fun _ h9 => h9) rfl dX1_readAll_86 ?_
                  refine topE hdq ?_
                  refine lv_if_le (tgt := 101) hx hb dX1_readAll_89 (by decide) (fun c89 => ?_) (fun c89 => ?_)
                  · skip
                    have n89 : d ≤ 0 := (nI_leI (a := d) (b := 0) (by omega) (by omega)).mp c89
                    refine lv_aload_n hx hb dX1_readAll_101 rfl (lv_at hl 0 rfl) ?_
                    refine lv_iconst (v := nI 0) hx hb dX1_readAll_102 (by decide) ?_
                    refine va_put (D := gD G) (ci := 1) (v := .int (nI 0)) (ty := .int) (C := RX1) (T := TX1) (N := 10) hx hb hts hiX1 tyX1 tyX1_ok nmX1 hown hK hP hD hS 0 rfl rfl 1 (by decide) k15 (fun _ h9 => h9) rfl (tyX1_ok 1 (by decide)) (rfl) (rfl) (Nat.le_of_ble_eq_true rfl) dX1_readAll_103 (fun H locs hP hD hS => ?_)
                    have hP : PP G (rv G h (oI (oI q 2 (nI (sk tx len b))) 1 (nI 0)) pw) H := hP
                    have hD : va_D A (rv G h (oI (oI q 2 (nI (sk tx len b))) 1 (nI 0)) pw) := hD
                    refine lv_aload_n hx hb dX1_readAll_106 rfl (lv_at hl 0 rfl) ?_
                    refine va_get (D := gD G) (ci := 1) (v := .int (q.1 4)) (C := RX1) (T := TX1) (N := 10) hx hb hts hiX1 hown hK hP 0 rfl rfl 4 (by decide) k25 (fun _ h9 => h9) rfl dX1_readAll_107 ?_
                    refine topE hbz ?_
                    exact W.iret (v := nI fz) hx hb hr (fun t ht hW => ⟨⟨nI fz, (oI (oI q 2 (nI (sk tx len b))) 1 (nI 0), pw), rfl, by obtain ⟨pl9, s9, h9, h10⟩ := hF1 (by omega); exact ⟨_, _, (fz, pl9, s9), rfl, h9, rfl, hbz, rfl, ⟨n, mq, en, by omega, em, by omega⟩, fun _ => h10, fun q9 => absurd q9 (by omega), hf4⟩, show PP G (rv G h (oI (oI q 2 (nI (sk tx len b))) 1 (nI 0)) pw) t.heap by rw [ht]; exact hP⟩, hS.F ht⟩) hS.2.2 dX1_readAll_110
                  · skip
                    have n89 : ¬ (d ≤ 0) := fun q9 => c89 ((nI_leI (a := d) (b := 0) (by omega) (by omega)).mpr q9)
                    refine lv_aload_n hx hb dX1_readAll_92 rfl (lv_at hl 0 rfl) ?_
                    refine lv_iconst (v := nI 1) hx hb dX1_readAll_93 (by decide) ?_
                    refine lv_aload_n hx hb dX1_readAll_94 rfl (lv_at hl 0 rfl) ?_
                    refine va_get (D := gD G) (ci := 1) (v := .int (q.1 1)) (C := RX1) (T := TX1) (N := 10) hx hb hts hiX1 hown hK hP 0 rfl rfl 1 (by decide) k15 (fun _ h9 => h9) rfl dX1_readAll_95 ?_
                    refine topE ((hR.1 1 (by decide)).trans hlen) ?_
                    refine cXv (As := [.int (nI 1), .int (nI len)]) (rest := []) (S := oS × oS) (wa := rv G h (oI q 2 (nI (sk tx len b))) pw) (w1 := fun v => rv G h v.1 v.2) ⟨hx, hb, hml, hown, hts⟩ (mt_X1_fail1 l G h _ (oI q 2 (nI (sk tx len b))) pw fz (nI 1) (nI len) (hbz) (by first | assumption | omega) (by first | assumption | omega)) (cwV 2 hts gX1_readAll_X1_fail rfl rfl rfl ⟨rfl, hd_X1_fail⟩ ⟨Nat.le_of_ble_eq_true rfl, Nat.le_of_ble_eq_true rfl⟩) hK hN hP hD hS hA (fun _ => rfl) 0 1 rfl rfl rfl hl.1 rfl (Nat.le_of_ble_eq_true rfl) ⟨Nat.zero_le _, Nat.zero_le _⟩ dX1_readAll_98 (fun u98 H locs hw98 hP hD hS => ?_)
                    obtain rfl := hw98
                    have hP : PP G (rv G h (oI q 2 (nI (sk tx len b))) pw) H := hP
                    have hD : va_D A (rv G h (oI q 2 (nI (sk tx len b))) pw) := hD
                    refine lv_aload_n hx hb dX1_readAll_101 rfl (lv_at hl 0 rfl) ?_
                    refine lv_iconst (v := nI 0) hx hb dX1_readAll_102 (by decide) ?_
                    refine va_put (D := gD G) (ci := 1) (v := .int (nI 0)) (ty := .int) (C := RX1) (T := TX1) (N := 10) hx hb hts hiX1 tyX1 tyX1_ok nmX1 hown hK hP hD hS 0 rfl rfl 1 (by decide) k15 (fun _ h9 => h9) rfl (tyX1_ok 1 (by decide)) (rfl) (rfl) (Nat.le_of_ble_eq_true rfl) dX1_readAll_103 (fun H locs hP hD hS => ?_)
                    have hP : PP G (rv G h (oI (oI q 2 (nI (sk tx len b))) 1 (nI 0)) pw) H := hP
                    have hD : va_D A (rv G h (oI (oI q 2 (nI (sk tx len b))) 1 (nI 0)) pw) := hD
                    refine lv_aload_n hx hb dX1_readAll_106 rfl (lv_at hl 0 rfl) ?_
                    refine va_get (D := gD G) (ci := 1) (v := .int (q.1 4)) (C := RX1) (T := TX1) (N := 10) hx hb hts hiX1 hown hK hP 0 rfl rfl 4 (by decide) k25 (fun _ h9 => h9) rfl dX1_readAll_107 ?_
                    refine topE hbz ?_
                    exact W.iret (v := nI fz) hx hb hr (fun t ht hW => ⟨⟨nI fz, (oI (oI q 2 (nI (sk tx len b))) 1 (nI 0), pw), rfl, by obtain ⟨pl9, s9, h9, h10⟩ := hF1 (by omega); exact ⟨_, _, (fz, pl9, s9), rfl, h9, rfl, hbz, rfl, ⟨n, mq, en, by omega, em, by omega⟩, fun _ => h10, fun q9 => absurd q9 (by omega), hf4⟩, show PP G (rv G h (oI (oI q 2 (nI (sk tx len b))) 1 (nI 0)) pw) t.heap by rw [ht]; exact hP⟩, hS.F ht⟩) hS.2.2 dX1_readAll_110
          exact LP56 (240 - 0 + 1) 0 (oI q 2 (nI (sk tx len b))) pw s1 fz (sk tx len b) d n mq (by first | exact Or.inl (Nat.zero_le _) | omega) (by repeat (first | exact rel.refl _ | exact rel.mono (by assumption) (by decide) (by decide) | refine rel.I (by decide) ?_ | refine rel.A (by decide) ?_ | refine rel.trans ?_ (rel.mono (by assumption) (by decide) (by decide)))) (rfl) (by omega) (hdq) (by omega) (en) (by omega) (em) (by omega) (htx_q) (hbz) (by omega) (fun q => absurd q (by omega)) (hF1) (by first | assumption | omega) (Nat.lt_succ_self _) _ _ ls hP hD hS (lv_sub hl [1, 0] rfl)
  exact LP29 (25 - 0 + 1) 0 (oI (oI (oI (oI rd 2 (nI 0)) 8 (nI 0)) 4 (nI 0)) 5 (-1 : Int32)) (oI (oI w 0 (nI 0)) 5 (nI 0)) s0 0 0 0 0 0 (by first | assumption | omega) (by repeat (first | exact rel.refl _ | exact rel.mono (by assumption) (by decide) (by decide) | refine rel.I (by decide) ?_ | refine rel.A (by decide) ?_ | refine rel.trans ?_ (rel.mono (by assumption) (by decide) (by decide)))) (rfl) (by omega) (rfl) (by omega) (rfl) (by omega) (rfl) (by omega) (htx) (rfl) (by omega) (fun _ => ⟨⟨hlen, rfl, rfl, rfl, ⟨hl240, Nat.zero_le _, Nat.zero_le _, Nat.zero_le _, Nat.zero_le _, fun i hi => absurd hi (Nat.not_lt_zero i)⟩, RwC_0 _ _⟩, rfl, fun d hd => absurd hd (Nat.not_lt_zero d), Nat.zero_le _, rfl, fun _ h => h, rfl⟩) (fun q => absurd rfl q) (Nat.lt_succ_self _) _ _ ls hP hD hS (lv_sub hl [1, 0] rfl)
set_option maxHeartbeats 1000000 in
set_option maxRecDepth 100000 in
theorem mt_X1_addLetter (l : Launch) (G : gG) (h : Nat → Nat) (sz : Nat) (rd : oS) (w : oS) (len : Nat) (x : Int32) (hlen : rd.1 1 = nI len) (hl240 : len ≤ 240) : Met l yX1_addLetter wsX1_addLetter ({ frames := 0, cells := 0, slots := 0, locals := 0 }) (preW G (rv G h rd w) sz [.ref (h 0), .int x]) (va_Qi (fun (r : Int32) (v : oS × oS) => (len = 240 ∧ v = (rd, w) ∧ r = 0) ∨ (len < 240 ∧ v = (oI (oA rd 0 (upd (rd.2 0) len x)) 1 (nI (len + 1)), w) ∧ r = 1)) (fun v t => PP G (rv G h v.1 v.2) t.heap) (va_A (rv G h rd w) sz)) 0 0 (va_A (rv G h rd w) sz) := by
  refine Met.ofW (cc := cX1_addLetter) (maxL := 2) (ret := (some .boolean)) (by decide) rfl ?_
  intro p e s m args below meth c s₁ B hml hv
  obtain ⟨ha, hsz, hP, hK, hN, hD0⟩ := hv
  subst ha
  have hx := B.exec
  have hb := B.bytes
  have hr := B.returns
  have hts := atoms_spec (ws := wsX1_addLetter) B.pre
  have hown : s.vm.findClass RX1 = some m.cls := findClass_of_methodNamed B.named
  have hlocks := B.notSynchronized
  subst hsz
  have hD := hD0.self (sz := s.heap.size)
  generalize hAe : va_A (rv G h rd w) s.heap.size = A at hD ⊢
  have hA : ∀ q : Nat, s.heap.size ≤ q → A q := fun q h => by rw [← hAe]; exact Or.inr h
  clear hAe hD0
  have hS : va_S A s.heap s.heap [] := va_S.rf
  have hiX1 : ∀ w ∈ wsX10, w ∈ wsX1_addLetter := fun w h9 => List.mem_cons_of_mem _ (List.mem_append_right _ (h9))
  have k15 := hts (.fieldLink RX1 15 "WovenHistory$Reader" "length" "I") (List.mem_of_getElem? (i := 1) rfl)
  have k9 := hts (.fieldLink RX1 9 "WovenHistory$Reader" "letters" "[I") (List.mem_of_getElem? (i := 2) rfl)
  have hl := lv_entry ([.ref (h 0), .int x]) (n := 2) (Nat.le_of_ble_eq_true rfl)
  rw [lg_entry_eq]
  generalize (lg_sl ([.ref (h 0), .int x]) ++ List.replicate (2 - (lg_sl ([.ref (h 0), .int x])).length) Slot.unset).toArray = ls at hl ⊢
  have hl : lv_has ls 2 [(0, .ref (h 0)), (1, .int x)] := hl
  refine lv_aload_n hx hb dX1_addLetter_0 rfl (lv_at hl 0 rfl) ?_
  refine va_get (D := gD G) (ci := 1) (v := .int (rd.1 1)) (C := RX1) (T := TX1) (N := 10) hx hb hts hiX1 hown hK hP 0 rfl rfl 1 (by decide) k15 (fun _ h9 => h9) rfl dX1_addLetter_1 ?_
  refine topE hlen ?_
  refine lv_sipush (v := nI 240) hx hb dX1_addLetter_4 (by decide) ?_
  refine lv_icmp_lt (tgt := 12) hx hb dX1_addLetter_7 (by decide) (fun c7 => ?_) (fun c7 => ?_)
  · skip
    have n7 : len < 240 := (nI_ltI (a := len) (b := 240) (by omega) (by omega)).mp c7
    refine lv_aload_n hx hb dX1_addLetter_12 rfl (lv_at hl 0 rfl) ?_
    refine va_get (D := gD G) (ci := 1) (v := .ref (h 1)) (C := RX1) (T := TX1) (N := 10) hx hb hts hiX1 hown hK hP 0 rfl rfl 0 (by decide) k9 (fun _ h9 => h9) rfl dX1_addLetter_13 ?_
    refine lv_aload_n hx hb dX1_addLetter_16 rfl (lv_at hl 0 rfl) ?_
    refine va_get (D := gD G) (ci := 1) (v := .int (rd.1 1)) (C := RX1) (T := TX1) (N := 10) hx hb hts hiX1 hown hK hP 0 rfl rfl 1 (by decide) k15 (fun _ h9 => h9) rfl dX1_addLetter_17 ?_
    refine topE hlen ?_
    refine lv_iload_n hx hb dX1_addLetter_20 rfl (lv_at hl 1 rfl) ?_
    refine iastN (f := rd.2 0) (n := 240) (k := len) hx hb hK hP hD hS 1 rfl rfl (by omega) dX1_addLetter_21 (fun H locs hP hD hS => ?_)
    have hP : PP G (rv G h (oA rd 0 (upd (rd.2 0) len x)) w) H := hP
    have hD : va_D A (rv G h (oA rd 0 (upd (rd.2 0) len x)) w) := hD
    refine lv_aload_n hx hb dX1_addLetter_22 rfl (lv_at hl 0 rfl) ?_
    refine lv_dup hx hb dX1_addLetter_23 rfl ?_
    refine va_get (D := gD G) (ci := 1) (v := .int (rd.1 1)) (C := RX1) (T := TX1) (N := 10) hx hb hts hiX1 hown hK hP 0 rfl rfl 1 (by decide) k15 (fun _ h9 => h9) rfl dX1_addLetter_24 ?_
    refine topE hlen ?_
    refine lv_iconst (v := nI 1) hx hb dX1_addLetter_27 (by decide) ?_
    refine lv_iadd hx hb dX1_addLetter_28 ?_
    refine topE (y := nI (len + 1)) (nI_add len 1) ?_
    refine va_put (D := gD G) (ci := 1) (v := .int (nI (len + 1))) (ty := .int) (C := RX1) (T := TX1) (N := 10) hx hb hts hiX1 tyX1 tyX1_ok nmX1 hown hK hP hD hS 0 rfl rfl 1 (by decide) k15 (fun _ h9 => h9) rfl (tyX1_ok 1 (by decide)) (rfl) (rfl) (Nat.le_of_ble_eq_true rfl) dX1_addLetter_29 (fun H locs hP hD hS => ?_)
    have hP : PP G (rv G h (oI (oA rd 0 (upd (rd.2 0) len x)) 1 (nI (len + 1))) w) H := hP
    have hD : va_D A (rv G h (oI (oA rd 0 (upd (rd.2 0) len x)) 1 (nI (len + 1))) w) := hD
    refine lv_iconst (v := nI 1) hx hb dX1_addLetter_32 (by decide) ?_
    exact W.zret (v := nI 1) hx hb hr (by decide) (fun t ht hW => ⟨⟨nI 1, (oI (oA rd 0 (upd (rd.2 0) len x)) 1 (nI (len + 1)), w), rfl, Or.inr ⟨by omega, rfl, rfl⟩, show PP G (rv G h (oI (oA rd 0 (upd (rd.2 0) len x)) 1 (nI (len + 1))) w) t.heap by rw [ht]; exact hP⟩, hS.F ht⟩) hS.2.2 dX1_addLetter_33
  · skip
    have n7 : ¬ (len < 240) := fun q9 => c7 ((nI_ltI (a := len) (b := 240) (by omega) (by omega)).mpr q9)
    refine lv_iconst (v := nI 0) hx hb dX1_addLetter_10 (by decide) ?_
    exact W.zret (v := nI 0) hx hb hr (by decide) (fun t ht hW => ⟨⟨nI 0, (rd, w), rfl, Or.inl ⟨by omega, rfl, rfl⟩, show PP G (rv G h rd w) t.heap by rw [ht]; exact hP⟩, hS.F ht⟩) hS.2.2 dX1_addLetter_11
