set_option maxHeartbeats 1000000 in
set_option maxRecDepth 100000 in
theorem mt_X5_nearS (l : Launch) (G : gG) (h : Nat → Nat) (u : oS) (lt : Int64) (sj : Nat → Int64) (sg : pS) (zz : Nat → Nat → Int64) (a : Int32) (b : Int32) (nh : Nat) (hI : MIx u (sg.1 0) (sg.1 4) (sg.1 10) nh) (hIS : IS sg) (hRM : RepM u sj sg zz) : Met l yX5_near wsX5_near ({ frames := 2, cells := 0, slots := 0, locals := 46 }) (preR G (mw G h u lt sj) [.ref (h 0), .int a, .int b]) (vp_Si (fun r : Int32 => r = neaA sg a b)) 0 0 (fun _ => False) := by
  refine Met.ofW (cc := cX5_near) (maxL := 5) (ret := (some .int)) (by decide) rfl ?_
  intro p e s m args below meth c s₁ B hml hv
  obtain ⟨ha, hP, hK, hN⟩ := hv
  subst ha
  have hx := B.exec
  have hb := B.bytes
  have hr := B.returns
  have hts := atoms_spec (ws := wsX5_near) B.pre
  have hown : s.vm.findClass RX5 = some m.cls := findClass_of_methodNamed B.named
  have hlocks := B.notSynchronized
  have hl := lv_entry ([.ref (h 0), .int a, .int b]) (n := 5) (Nat.le_of_ble_eq_true rfl)
  rw [lg_entry_eq]
  generalize (lg_sl ([.ref (h 0), .int a, .int b]) ++ List.replicate (5 - (lg_sl ([.ref (h 0), .int a, .int b])).length) Slot.unset).toArray = ls at hl ⊢
  have hl : lv_has ls 5 [(0, .ref (h 0)), (1, .int a), (2, .int b)] := hl
  have hC := hRM.1
  have hic := hIS.ic
  have hle8 := hIS.2.2.1
  have h8e := hRM.2.1
  have hI0 := hI
  obtain ⟨hnv, hnl, hnt, hnh, hnv24, hnl120, hnt240, hnh120, hop, hopn, hparV, hsz4, himg⟩ := hI
  refine lv_aload_n hx hb dX5_near_0 rfl (lv_at hl 0 rfl) ?_
  refine lv_iload_n hx hb dX5_near_1 rfl (lv_at hl 1 rfl) ?_
  refine cRi (w := mw G h u lt sj) (As := [.int a]) (rest := []) ⟨hx, hb, hml, hown, hts⟩ (mt_X5_isVersion l G h u lt sj (sg.1 0) a (hnv) (by first | assumption | omega)) (cwV 1 hts gX5_near_X5_isVersion rfl rfl rfl ⟨rfl, hd_X5_isVersion⟩ ⟨Nat.le_of_ble_eq_true rfl, Nat.le_of_ble_eq_true rfl⟩) hK hN hP 0 5 rfl rfl rfl hl.1 rfl (Nat.le_of_ble_eq_true rfl) ⟨Nat.zero_le _, Nat.zero_le _⟩ dX5_near_2 (fun r2 hw2 => ?_)
  rcases hw2 with ⟨rfl, a1, ha1, rfl⟩ | ⟨rfl, hna1⟩
  · skip
    refine lv_if_eq (tgt := 21) hx hb dX5_near_5 (by decide) (fun c9 => absurd c9 (by decide)) (fun _ => ?_)
    refine lv_aload_n hx hb dX5_near_8 rfl (lv_at hl 0 rfl) ?_
    refine lv_iload_n hx hb dX5_near_9 rfl (lv_at hl 2 rfl) ?_
    refine cRi (w := mw G h u lt sj) (As := [.int b]) (rest := []) ⟨hx, hb, hml, hown, hts⟩ (mt_X5_isVersion l G h u lt sj (sg.1 0) b (hnv) (by first | assumption | omega)) (cwV 1 hts gX5_near_X5_isVersion rfl rfl rfl ⟨rfl, hd_X5_isVersion⟩ ⟨Nat.le_of_ble_eq_true rfl, Nat.le_of_ble_eq_true rfl⟩) hK hN hP 0 5 rfl rfl rfl hl.1 rfl (Nat.le_of_ble_eq_true rfl) ⟨Nat.zero_le _, Nat.zero_le _⟩ dX5_near_10 (fun r10 hw10 => ?_)
    rcases hw10 with ⟨rfl, b1, hb1, rfl⟩ | ⟨rfl, hnb1⟩
    · skip
      refine lv_if_eq (tgt := 21) hx hb dX5_near_13 (by decide) (fun c9 => absurd c9 (by decide)) (fun _ => ?_)
      refine lv_iload_n hx hb dX5_near_16 rfl (lv_at hl 1 rfl) ?_
      refine lv_iload_n hx hb dX5_near_17 rfl (lv_at hl 2 rfl) ?_
      refine lv_icmp_ne (tgt := 24) hx hb dX5_near_18 (by decide) (fun c18 => ?_) (fun c18 => ?_)
      · skip
        have n18 : ¬ (a1 = b1) := fun q9 => c18 ((nI_eq (a := a1) (b := b1) (by omega) (by omega)).mpr q9)
        refine lv_aload_n hx hb dX5_near_24 rfl (lv_at hl 0 rfl) ?_
        refine lv_iload_n hx hb dX5_near_25 rfl (lv_at hl 1 rfl) ?_
        refine cRi (w := mw G h u lt sj) (As := [.int (nI a1)]) (rest := []) ⟨hx, hb, hml, hown, hts⟩ (mt_X5_eldersOfF l G h u lt sj a1 (by first | assumption | omega) (hparV.le (by omega))) (cwV 1 hts gX5_near_X5_eldersOf rfl rfl rfl ⟨rfl, hd_X5_eldersOf⟩ ⟨Nat.le_of_ble_eq_true rfl, Nat.le_of_ble_eq_true rfl⟩) hK hN hP 0 5 rfl rfl rfl hl.1 rfl (Nat.le_of_ble_eq_true rfl) ⟨Nat.zero_le _, Nat.zero_le _⟩ dX5_near_26 (fun r26 hw26 => ?_)
        obtain rfl := hw26
        refine lv_aload_n hx hb dX5_near_29 rfl (lv_at hl 0 rfl) ?_
        refine lv_iload_n hx hb dX5_near_30 rfl (lv_at hl 2 rfl) ?_
        refine cRi (w := mw G h u lt sj) (As := [.int (nI b1)]) (rest := [.int (eldV (u.2 1) (nI a1))]) ⟨hx, hb, hml, hown, hts⟩ (mt_X5_eldersOfF l G h u lt sj b1 (by first | assumption | omega) (hparV.le (by omega))) (cwV 1 hts gX5_near_X5_eldersOf rfl rfl rfl ⟨rfl, hd_X5_eldersOf⟩ ⟨Nat.le_of_ble_eq_true rfl, Nat.le_of_ble_eq_true rfl⟩) hK hN hP 0 5 rfl rfl rfl hl.1 rfl (Nat.le_of_ble_eq_true rfl) ⟨Nat.zero_le _, Nat.zero_le _⟩ dX5_near_31 (fun r31 hw31 => ?_)
        obtain rfl := hw31
        refine lv_iand hx hb dX5_near_34 ?_
        refine lv_istore_n (lv' := [(3, .int ((eldV (u.2 1) (nI a1)) &&& (eldV (u.2 1) (nI b1)))), (0, .ref (h 0)), (1, .int (nI a1)), (2, .int (nI b1))]) hx hb dX5_near_35 rfl hl (by decide) rfl (fun ls hl => ?_)
        refine lv_bipush (v := nI 23) hx hb dX5_near_36 (by decide) ?_
        refine lv_istore (lv' := [(4, .int (nI 23)), (3, .int ((eldV (u.2 1) (nI a1)) &&& (eldV (u.2 1) (nI b1)))), (0, .ref (h 0)), (1, .int (nI a1)), (2, .int (nI b1))]) hx hb dX5_near_38 hl (by decide) rfl (fun ls hl => ?_)
        have LP40 : ∀ (n40m : Nat), ∀ (kk : Nat) (hkk : kk ≤ 24) (hhi : hiB ((eldV (u.2 1) (nI a1)) &&& (eldV (u.2 1) (nI b1))) 24 = hiB ((eldV (u.2 1) (nI a1)) &&& (eldV (u.2 1) (nI b1))) kk), (kk < n40m) → ∀ (ls : Array Slot), lv_has ls 5 [(3, .int ((eldV (u.2 1) (nI a1)) &&& (eldV (u.2 1) (nI b1)))), (4, .int (nI kk + (-1)))] → W p l e (headSpec wsX5_near ({ frames := 2, cells := 0, slots := 0, locals := 46 })).room s m ([.ref (h 0), .int (nI a1), .int (nI b1)] : List Value).toArray below meth c s.heap [] 0 0 (MQ below (vp_Si (fun r : Int32 => r = neaA sg (nI a1) (nI b1))) ([.ref (h 0), .int (nI a1), .int (nI b1)] : List Value).toArray s 0 0 (fun _ => False)) (F0 m 40 ls []) := by
          intro n40m
          induction n40m with
          | zero => intro kk hkk hhi hmu ls hl; exact absurd hmu (Nat.not_lt_zero _)
          | succ n40m ih40 =>
            intro kk hkk hhi hmu ls hl
            refine lv_iload hx hb dX5_near_40 (lv_at hl 1 rfl) ?_
            refine lv_if_lt (tgt := 60) hx hb dX5_near_42 (by decide) (fun c42 => ?_) (fun c42 => ?_)
            · skip
              have ek : kk = 0 := nI_m1neg (by omega) c42
              refine lv_iload hx hb dX5_near_60 (lv_at hl 1 rfl) ?_
              exact W.iret (v := nI kk + (-1)) hx hb hr (fun t ht hW => ⟨nI kk + (-1), rfl, by rw [neaA, if_pos (two_t hnv24 ha1 hb1 c18), ← hC.eld hic (i := a1) (by omega), ← hC.eld hic (i := b1) (by omega), hhi, ek]; rfl, ht⟩) (fun _ h9 => by cases h9) dX5_near_62
            · skip
              obtain ⟨k42, rfl⟩ := nI_m1pos c42
              rw [pk_m1] at hl
              refine lv_iload_n hx hb dX5_near_45 rfl (lv_at hl 0 rfl) ?_
              refine lv_iload hx hb dX5_near_46 (lv_at hl 1 rfl) ?_
              refine cSi (As := [.int ((eldV (u.2 1) (nI a1)) &&& (eldV (u.2 1) (nI b1))), .int (nI k42)]) (rest := []) ⟨hx, hb, hml, hown, hts⟩ (mt_X5_has l ((eldV (u.2 1) (nI a1)) &&& (eldV (u.2 1) (nI b1))) (nI k42)) (va_cwS 2 hts gX5_near_X5_has rfl rfl rfl hd_X5_has ⟨Nat.le_of_ble_eq_true rfl, Nat.le_of_ble_eq_true rfl⟩) rfl hl.1 rfl (Nat.le_of_ble_eq_true rfl) ⟨Nat.zero_le _, Nat.zero_le _⟩ dX5_near_48 (fun r48 hw48 => ?_)
              rcases hw48 with ⟨rfl, hy48⟩ | ⟨rfl, hn48⟩
              · skip
                refine lv_if_ne (tgt := 60) hx hb dX5_near_51 (by decide) (fun _ => ?_) (fun c9 => absurd c9 (by decide))
                refine lv_iload hx hb dX5_near_60 (lv_at hl 1 rfl) ?_
                exact W.iret (v := nI k42) hx hb hr (fun t ht hW => ⟨nI k42, rfl, by rw [neaA, if_pos (two_t hnv24 ha1 hb1 c18), ← hC.eld hic (i := a1) (by omega), ← hC.eld hic (i := b1) (by omega), hhi, hiB, if_pos (hasb_t hy48)], ht⟩) (fun _ h9 => by cases h9) dX5_near_62
              · skip
                refine lv_if_ne (tgt := 60) hx hb dX5_near_51 (by decide) (fun c9 => absurd (by decide) c9) (fun _ => ?_)
                refine lv_iinc (v := (nI k42) + (-1)) (lv' := [(4, .int ((nI k42) + (-1))), (3, .int ((eldV (u.2 1) (nI a1)) &&& (eldV (u.2 1) (nI b1))))]) hx hb dX5_near_54 hl (k := 1) rfl (rfl) (by decide) rfl (fun ls hl => ?_)
                refine lv_goto (tgt := 40) hx hb dX5_near_57 (by decide) ?_
                exact ih40 k42 (by first | assumption | omega) (by rw [hhi, hiB, if_neg (hasb_f hn48)]) (by omega) ls (lv_sub hl [1, 0] rfl)
        exact LP40 (24 + 1) 24 (by first | assumption | omega) (rfl) (Nat.lt_succ_self _) ls (lv_sub hl [1, 0] rfl)
      · skip
        have n18 : a1 = b1 := (nI_eq (a := a1) (b := b1) (by omega) (by omega)).mp c18
        refine lv_ldc (v := (-1000000001 : Int32)) hx hb hown (hts (.constant RX5 216 (-1000000001)) (List.mem_of_getElem? (i := 1) rfl)) dX5_near_21 ?_
        exact W.iret (v := (-1000000001 : Int32)) hx hb hr (fun t ht hW => ⟨(-1000000001 : Int32), rfl, by rw [neaA, if_neg (by first | exact two_f1 (inR_f (by omega) hna1) | exact two_f2 (inR_f (by omega) hnb1) | exact two_f3 c18)], ht⟩) (fun _ h9 => by cases h9) dX5_near_23
    · skip
      refine lv_if_eq (tgt := 21) hx hb dX5_near_13 (by decide) (fun _ => ?_) (fun c9 => absurd (by decide) c9)
      refine lv_ldc (v := (-1000000001 : Int32)) hx hb hown (hts (.constant RX5 216 (-1000000001)) (List.mem_of_getElem? (i := 1) rfl)) dX5_near_21 ?_
      exact W.iret (v := (-1000000001 : Int32)) hx hb hr (fun t ht hW => ⟨(-1000000001 : Int32), rfl, by rw [neaA, if_neg (by first | exact two_f1 (inR_f (by omega) hna1) | exact two_f2 (inR_f (by omega) hnb1) | exact two_f3 c18)], ht⟩) (fun _ h9 => by cases h9) dX5_near_23
  · skip
    refine lv_if_eq (tgt := 21) hx hb dX5_near_5 (by decide) (fun _ => ?_) (fun c9 => absurd (by decide) c9)
    refine lv_ldc (v := (-1000000001 : Int32)) hx hb hown (hts (.constant RX5 216 (-1000000001)) (List.mem_of_getElem? (i := 1) rfl)) dX5_near_21 ?_
    exact W.iret (v := (-1000000001 : Int32)) hx hb hr (fun t ht hW => ⟨(-1000000001 : Int32), rfl, by rw [neaA, if_neg (by first | exact two_f1 (inR_f (by omega) hna1) | exact two_f2 (inR_f (by omega) hnb1) | exact two_f3 c18)], ht⟩) (fun _ h9 => by cases h9) dX5_near_23
set_option maxHeartbeats 1000000 in
set_option maxRecDepth 100000 in
theorem mt_X5_putS (l : Launch) (G : gG) (h : Nat → Nat) (sz : Nat) (u : oS) (lt : Int64) (sj : Nat → Int64) (sg : pS) (zz : Nat → Nat → Int64) (i : Int32) (lett : Int32) (nh : Nat) (hI : MIx u (sg.1 0) (sg.1 4) (sg.1 10) nh) (hIS : IS sg) (hRM : RepM u sj sg zz) : Met l yX5_put wsX5_put ({ frames := 4, cells := 0, slots := 0, locals := 91 }) (preW G (mw G h u lt sj) sz [.ref (h 0), .int i, .int lett]) (va_Qi (fun (r : Int32) (v : oS × Int64 × (Nat → Int64)) => RepM v.1 v.2.2 (putF sg i lett) (zz) ∧ r = putA sg i lett) (fun v t => PP G (mw G h v.1 v.2.1 v.2.2) t.heap) (va_A (mw G h u lt sj) sz)) 0 0 (va_A (mw G h u lt sj) sz) := by
  refine Met.ofW (cc := cX5_put) (maxL := 3) (ret := (some .int)) (by decide) rfl ?_
  intro p e s m args below meth c s₁ B hml hv
  obtain ⟨ha, hsz, hP, hK, hN, hD0⟩ := hv
  subst ha
  have hx := B.exec
  have hb := B.bytes
  have hr := B.returns
  have hts := atoms_spec (ws := wsX5_put) B.pre
  have hown : s.vm.findClass RX5 = some m.cls := findClass_of_methodNamed B.named
  have hlocks := B.notSynchronized
  subst hsz
  have hD := hD0.self (sz := s.heap.size)
  generalize hAe : va_A (mw G h u lt sj) s.heap.size = A at hD ⊢
  have hA : ∀ q : Nat, s.heap.size ≤ q → A q := fun q h => by rw [← hAe]; exact Or.inr h
  clear hAe hD0
  have hS : va_S A s.heap s.heap [] := va_S.rf
  have hiX5 : ∀ w ∈ wsX50, w ∈ wsX5_put := fun w h9 => List.mem_cons_of_mem _ (List.mem_append_right _ (h9))
  have k178 := hts (.fieldLink RX5 178 "WovenHistoryModel" "isOpen" "Z") (List.mem_of_getElem? (i := 4) rfl)
  have k175 := hts (.fieldLink RX5 175 "WovenHistoryModel" "lines" "I") (List.mem_of_getElem? (i := 6) rfl)
  have hl := lv_entry ([.ref (h 0), .int i, .int lett]) (n := 3) (Nat.le_of_ble_eq_true rfl)
  rw [lg_entry_eq]
  generalize (lg_sl ([.ref (h 0), .int i, .int lett]) ++ List.replicate (3 - (lg_sl ([.ref (h 0), .int i, .int lett])).length) Slot.unset).toArray = ls at hl ⊢
  have hl : lv_has ls 3 [(0, .ref (h 0)), (1, .int i), (2, .int lett)] := hl
  have hC := hRM.1
  have hic := hIS.ic
  have hle8 := hIS.2.2.1
  have h8e := hRM.2.1
  have hI0 := hI
  obtain ⟨hnv, hnl, hnt, hnh, hnv24, hnl120, hnt240, hnh120, hop, hopn, hparV, hsz4, himg⟩ := hI
  refine lv_iload_n hx hb dX5_put_0 rfl (lv_at hl 1 rfl) ?_
  refine lv_if_lt (tgt := 18) hx hb dX5_put_1 (by decide) (fun c1 => ?_) (fun c1 => ?_)
  · skip
    refine lv_ldc (v := (-1000000002 : Int32)) hx hb hown (hts (.constant RX5 100 (-1000000002)) (List.mem_of_getElem? (i := 3) rfl)) dX5_put_18 ?_
    exact W.iret (v := (-1000000002 : Int32)) hx hb hr (fun t ht hW => ⟨⟨(-1000000002 : Int32), (u, lt, sj), rfl, ⟨by rw [putF, if_pos (by first | exact Or.inl c1 | exact Or.inr (sgn64_n hn12))]; exact hRM, by rw [putA, if_pos (by first | exact Or.inl c1 | exact Or.inr (sgn64_n hn12))]⟩, show PP G (mw G h u lt sj) t.heap by rw [ht]; exact hP⟩, hS.F ht⟩) hS.2.2 dX5_put_20
  · skip
    obtain ⟨i1, hi1, rfl⟩ := nI_of c1
    refine lv_iload_n hx hb dX5_put_4 rfl (lv_at hl 2 rfl) ?_
    refine lv_i2l (v := lett.toInt64) hx hb dX5_put_5 rfl ?_
    refine lv_ldc2 (v := 65) hx hb hown (hts (.constantLong RX5 160 (65)) (List.mem_of_getElem? (i := 1) rfl)) dX5_put_6 ?_
    refine lv_ldc2 (v := 90) hx hb hown (hts (.constantLong RX5 162 (90)) (List.mem_of_getElem? (i := 2) rfl)) dX5_put_9 ?_
    refine cSi (As := [.long lett.toInt64, .long 65, .long 90]) (rest := []) ⟨hx, hb, hml, hown, hts⟩ (mt_X5_in l lett.toInt64 65 90) (va_cwS 3 hts gX5_put_X5_in rfl rfl rfl hd_X5_in ⟨Nat.le_of_ble_eq_true rfl, Nat.le_of_ble_eq_true rfl⟩) rfl hl.1 rfl (Nat.le_of_ble_eq_true rfl) ⟨Nat.zero_le _, Nat.zero_le _⟩ dX5_put_12 (fun r12 hw12 => ?_)
    rcases hw12 with ⟨rfl, ha12, hb12⟩ | ⟨rfl, hn12⟩
    · skip
      refine lv_if_ne (tgt := 21) hx hb dX5_put_15 (by decide) (fun _ => ?_) (fun c9 => absurd c9 (by decide))
      refine lv_aload_n hx hb dX5_put_21 rfl (lv_at hl 0 rfl) ?_
      refine va_get (D := gD G) (ci := 5) (v := .int (u.1 8)) (C := RX5) (T := TX5) (N := 38) hx hb hts hiX5 hown hK hP 0 rfl rfl 8 (by decide) k178 (fun _ h9 => h9) rfl dX5_put_22 ?_
      refine lv_if_eq (tgt := 36) hx hb dX5_put_25 (by decide) (fun c25 => ?_) (fun c25 => ?_)
      · skip
        refine lv_ldc (v := (-1000000003 : Int32)) hx hb hown (hts (.constant RX5 225 (-1000000003)) (List.mem_of_getElem? (i := 5) rfl)) dX5_put_36 ?_
        exact W.iret (v := (-1000000003 : Int32)) hx hb hr (fun t ht hW => ⟨⟨(-1000000003 : Int32), (u, lt, sj), rfl, ⟨by rw [putF, if_neg (fun q => by rcases q with q | q; exact c1 q; exact q (sgn64_y ha12 hb12)), if_pos (Or.inl (nI_z (by omega) (h8e.symm.trans c25)))]; exact hRM, by rw [putA, if_neg (fun q => by rcases q with q | q; exact c1 q; exact q (sgn64_y ha12 hb12)), if_pos (Or.inl (nI_z (by omega) (h8e.symm.trans c25)))]⟩, show PP G (mw G h u lt sj) t.heap by rw [ht]; exact hP⟩, hS.F ht⟩) hS.2.2 dX5_put_38
      · skip
        obtain ⟨ho1, ho2⟩ := hopn (hop.resolve_left c25)
        refine lv_iload_n hx hb dX5_put_28 rfl (lv_at hl 1 rfl) ?_
        refine lv_aload_n hx hb dX5_put_29 rfl (lv_at hl 0 rfl) ?_
        have hP := mw_self26 hP
        have hD : va_D A (mw G h (oA u 26 (u.2 26)) lt sj) := mw_self26D hD
        refine cXi (As := []) (rest := [.int (nI i1)]) (S := oS × Int64 × (Nat → Int64)) (wa := mw G h (oA u 26 (u.2 26)) lt sj) (w1 := fun v => mw G h v.1 v.2.1 v.2.2) ⟨hx, hb, hml, hown, hts⟩ (mt_X5_openLines l G h _ u lt sj (u.2 26) (sg.1 0) (sg.1 4) (hnv) (hnl) (by first | assumption | omega) (by first | assumption | omega) (ho2)) (cwV 0 hts gX5_put_X5_openLines rfl rfl rfl ⟨rfl, hd_X5_openLines⟩ ⟨Nat.le_of_ble_eq_true rfl, Nat.le_of_ble_eq_true rfl⟩) hK hN hP hD hS hA (fun _ => rfl) 0 5 rfl rfl rfl hl.1 rfl (Nat.le_of_ble_eq_true rfl) ⟨Nat.zero_le _, Nat.zero_le _⟩ dX5_put_30 (fun r30 u30 H locs hw30 hP hD hS => ?_)
        obtain ⟨g30, rfl, rfl⟩ := hw30
        have hP : PP G (mw G h (oA u 26 g30) lt sj) H := hP
        have hD : va_D A (mw G h (oA u 26 g30) lt sj) := hD
        have hc30 := cnt_le (sdb (u.2 6) (u.2 7) (chV (u.2 1) (u.2 2) (u.2 3) (nI (sg.1 0)))) (sg.1 4)
        have hol := olM hRM hIS (show sg.1 8 = 1 by have h8 : ¬ sg.1 8 = 0 := (fun q9 => c25 (h8e.trans (by rw [q9]; rfl))); omega)
        have h81 := (show sg.1 8 = 1 by have h8 : ¬ sg.1 8 = 0 := (fun q9 => c25 (h8e.trans (by rw [q9]; rfl))); omega)
        refine lv_icmp_le (tgt := 39) hx hb dX5_put_33 (by decide) (fun c33 => ?_) (fun c33 => ?_)
        · skip
          have n33 : i1 ≤ (cnt (sdb (u.2 6) (u.2 7) (chV (u.2 1) (u.2 2) (u.2 3) (nI (sg.1 0)))) (sg.1 4)) := (nI_leI (a := i1) (b := cnt (sdb (u.2 6) (u.2 7) (chV (u.2 1) (u.2 2) (u.2 3) (nI (sg.1 0)))) (sg.1 4)) (by omega) (by omega)).mp c33
          refine lv_aload_n hx hb dX5_put_39 rfl (lv_at hl 0 rfl) ?_
          refine va_get (D := gD G) (ci := 5) (v := .int (u.1 4)) (C := RX5) (T := TX5) (N := 38) hx hb hts hiX5 hown hK hP 0 rfl rfl 4 (by decide) k175 (fun _ h9 => h9) rfl dX5_put_40 ?_
          refine topE hnl ?_
          refine lv_bipush (v := nI 120) hx hb dX5_put_43 (by decide) ?_
          refine lv_icmp_ne (tgt := 51) hx hb dX5_put_45 (by decide) (fun c45 => ?_) (fun c45 => ?_)
          · skip
            have n45 : ¬ ((sg.1 4) = 120) := fun q9 => c45 ((nI_eq (a := sg.1 4) (b := 120) (by omega) (by omega)).mpr q9)
            refine lv_aload_n hx hb dX5_put_51 rfl (lv_at hl 0 rfl) ?_
            refine lv_iload_n hx hb dX5_put_52 rfl (lv_at hl 1 rfl) ?_
            refine lv_iload_n hx hb dX5_put_53 rfl (lv_at hl 2 rfl) ?_
            refine cXi (As := [.int (nI i1), .int lett]) (rest := []) (S := oS × Int64 × (Nat → Int64)) (wa := mw G h (oA u 26 g30) lt sj) (w1 := fun v => mw G h v.1 v.2.1 v.2.2) ⟨hx, hb, hml, hown, hts⟩ (mt_X5_putNowF l G h _ (oA u 26 g30) lt sj (sg.1 0) (sg.1 4) i1 lett (hnv) (hnl) (by first | assumption | omega) (by first | assumption | omega) (ho2) (by first | assumption | omega)) (cwV 2 hts gX5_put_X5_putNow rfl rfl rfl ⟨rfl, hd_X5_putNow⟩ ⟨Nat.le_of_ble_eq_true rfl, Nat.le_of_ble_eq_true rfl⟩) hK hN hP hD hS hA (fun _ => rfl) 0 5 rfl rfl rfl hl.1 rfl (Nat.le_of_ble_eq_true rfl) ⟨Nat.zero_le _, Nat.zero_le _⟩ dX5_put_54 (fun r54 u54 H locs hw54 hP hD hS => ?_)
            obtain ⟨g54, f554, f654, f754, rfl, h554, h654, h754, rfl⟩ := hw54
            have hP : PP G (mw G h (oI (ln3 (oA (oA u 26 g30) 26 g54) f554 f654 f754) 4 (nI ((sg.1 4) + 1))) lt sj) H := hP
            have hD : va_D A (mw G h (oI (ln3 (oA (oA u 26 g30) 26 g54) f554 f654 f754) 4 (nI ((sg.1 4) + 1))) lt sj) := hD
            exact W.iret (v := nI (posP (sdb ((oA u 26 g30).2 6) ((oA u 26 g30).2 7) (chV ((oA u 26 g30).2 1) ((oA u 26 g30).2 2) ((oA u 26 g30).2 3) (nI (sg.1 0)))) (sg.1 4) i1)) hx hb hr (fun t ht hW => ⟨⟨nI (posP (sdb ((oA u 26 g30).2 6) ((oA u 26 g30).2 7) (chV ((oA u 26 g30).2 1) ((oA u 26 g30).2 2) ((oA u 26 g30).2 3) (nI (sg.1 0)))) (sg.1 4) i1), (oI (ln3 (oA (oA u 26 g30) 26 g54) f554 f654 f754) 4 (nI ((sg.1 4) + 1)), lt, sj), rfl, ⟨by rw [putF, if_neg (fun q => by rcases q with q | q; exact c1 q; exact q (sgn64_y ha12 hb12)), vN_n' hi1, if_neg (show ¬ (sg.1 8 = 0 ∨ olS sg < i1) by omega), if_neg n45]; exact RepM_put (RepM_26 g30 hRM) hIS h81 h554 h654 h754, by rw [putA, if_neg (fun q => by rcases q with q | q; exact c1 q; exact q (sgn64_y ha12 hb12)), vN_n' hi1, if_neg (show ¬ (sg.1 8 = 0 ∨ olS sg < i1) by omega), if_neg n45]; exact congrArg nI (posM (RepM_26 g30 hRM) hIS h81)⟩, show PP G (mw G h (oI (ln3 (oA (oA u 26 g30) 26 g54) f554 f654 f754) 4 (nI ((sg.1 4) + 1))) lt sj) t.heap by rw [ht]; exact hP⟩, hS.F ht⟩) hS.2.2 dX5_put_57
          · skip
            have n45 : (sg.1 4) = 120 := (nI_eq (a := sg.1 4) (b := 120) (by omega) (by omega)).mp c45
            refine lv_ldc (v := (-1000000004 : Int32)) hx hb hown (hts (.constant RX5 104 (-1000000004)) (List.mem_of_getElem? (i := 7) rfl)) dX5_put_48 ?_
            exact W.iret (v := (-1000000004 : Int32)) hx hb hr (fun t ht hW => ⟨⟨(-1000000004 : Int32), (oA u 26 g30, lt, sj), rfl, ⟨by rw [putF, if_neg (fun q => by rcases q with q | q; exact c1 q; exact q (sgn64_y ha12 hb12)), vN_n' hi1, if_neg (show ¬ (sg.1 8 = 0 ∨ olS sg < i1) by omega), if_pos n45]; exact RepM_26 _ hRM, by rw [putA, if_neg (fun q => by rcases q with q | q; exact c1 q; exact q (sgn64_y ha12 hb12)), vN_n' hi1, if_neg (show ¬ (sg.1 8 = 0 ∨ olS sg < i1) by omega), if_pos n45]⟩, show PP G (mw G h (oA u 26 g30) lt sj) t.heap by rw [ht]; exact hP⟩, hS.F ht⟩) hS.2.2 dX5_put_50
        · skip
          have n33 : ¬ (i1 ≤ (cnt (sdb (u.2 6) (u.2 7) (chV (u.2 1) (u.2 2) (u.2 3) (nI (sg.1 0)))) (sg.1 4))) := fun q9 => c33 ((nI_leI (a := i1) (b := cnt (sdb (u.2 6) (u.2 7) (chV (u.2 1) (u.2 2) (u.2 3) (nI (sg.1 0)))) (sg.1 4)) (by omega) (by omega)).mpr q9)
          refine lv_ldc (v := (-1000000003 : Int32)) hx hb hown (hts (.constant RX5 225 (-1000000003)) (List.mem_of_getElem? (i := 5) rfl)) dX5_put_36 ?_
          exact W.iret (v := (-1000000003 : Int32)) hx hb hr (fun t ht hW => ⟨⟨(-1000000003 : Int32), (oA u 26 g30, lt, sj), rfl, ⟨by rw [putF, if_neg (fun q => by rcases q with q | q; exact c1 q; exact q (sgn64_y ha12 hb12)), vN_n' hi1, if_pos (show sg.1 8 = 0 ∨ olS sg < i1 from Or.inr (by omega))]; exact RepM_26 _ hRM, by rw [putA, if_neg (fun q => by rcases q with q | q; exact c1 q; exact q (sgn64_y ha12 hb12)), vN_n' hi1, if_pos (show sg.1 8 = 0 ∨ olS sg < i1 from Or.inr (by omega))]⟩, show PP G (mw G h (oA u 26 g30) lt sj) t.heap by rw [ht]; exact hP⟩, hS.F ht⟩) hS.2.2 dX5_put_38
    · skip
      refine lv_if_ne (tgt := 21) hx hb dX5_put_15 (by decide) (fun c9 => absurd (by decide) c9) (fun _ => ?_)
      refine lv_ldc (v := (-1000000002 : Int32)) hx hb hown (hts (.constant RX5 100 (-1000000002)) (List.mem_of_getElem? (i := 3) rfl)) dX5_put_18 ?_
      exact W.iret (v := (-1000000002 : Int32)) hx hb hr (fun t ht hW => ⟨⟨(-1000000002 : Int32), (u, lt, sj), rfl, ⟨by rw [putF, if_pos (by first | exact Or.inl c1 | exact Or.inr (sgn64_n hn12))]; exact hRM, by rw [putA, if_pos (by first | exact Or.inl c1 | exact Or.inr (sgn64_n hn12))]⟩, show PP G (mw G h u lt sj) t.heap by rw [ht]; exact hP⟩, hS.F ht⟩) hS.2.2 dX5_put_20
set_option maxHeartbeats 1000000 in
set_option maxRecDepth 100000 in
theorem mt_X5_takeS (l : Launch) (G : gG) (h : Nat → Nat) (sz : Nat) (u : oS) (lt : Int64) (sj : Nat → Int64) (sg : pS) (zz : Nat → Nat → Int64) (i : Int32) (nh : Nat) (hI : MIx u (sg.1 0) (sg.1 4) (sg.1 10) nh) (hIS : IS sg) (hRM : RepM u sj sg zz) : Met l yX5_take wsX5_take ({ frames := 3, cells := 0, slots := 0, locals := 67 }) (preW G (mw G h u lt sj) sz [.ref (h 0), .int i]) (va_Qi (fun (r : Int32) (v : oS × Int64 × (Nat → Int64)) => RepM v.1 v.2.2 (takF sg i) (zz) ∧ r = takA sg i) (fun v t => PP G (mw G h v.1 v.2.1 v.2.2) t.heap) (va_A (mw G h u lt sj) sz)) 0 0 (va_A (mw G h u lt sj) sz) := by
  refine Met.ofW (cc := cX5_take) (maxL := 3) (ret := (some .int)) (by decide) rfl ?_
  intro p e s m args below meth c s₁ B hml hv
  obtain ⟨ha, hsz, hP, hK, hN, hD0⟩ := hv
  subst ha
  have hx := B.exec
  have hb := B.bytes
  have hr := B.returns
  have hts := atoms_spec (ws := wsX5_take) B.pre
  have hown : s.vm.findClass RX5 = some m.cls := findClass_of_methodNamed B.named
  have hlocks := B.notSynchronized
  subst hsz
  have hD := hD0.self (sz := s.heap.size)
  generalize hAe : va_A (mw G h u lt sj) s.heap.size = A at hD ⊢
  have hA : ∀ q : Nat, s.heap.size ≤ q → A q := fun q h => by rw [← hAe]; exact Or.inr h
  clear hAe hD0
  have hS : va_S A s.heap s.heap [] := va_S.rf
  have hiX5 : ∀ w ∈ wsX50, w ∈ wsX5_take := fun w h9 => List.mem_cons_of_mem _ (List.mem_append_right _ (h9))
  have k178 := hts (.fieldLink RX5 178 "WovenHistoryModel" "isOpen" "Z") (List.mem_of_getElem? (i := 2) rfl)
  have k91 := hts (.fieldLink RX5 91 "WovenHistoryModel" "versions" "I") (List.mem_of_getElem? (i := 3) rfl)
  have hl := lv_entry ([.ref (h 0), .int i]) (n := 3) (Nat.le_of_ble_eq_true rfl)
  rw [lg_entry_eq]
  generalize (lg_sl ([.ref (h 0), .int i]) ++ List.replicate (3 - (lg_sl ([.ref (h 0), .int i])).length) Slot.unset).toArray = ls at hl ⊢
  have hl : lv_has ls 3 [(0, .ref (h 0)), (1, .int i)] := hl
  have hC := hRM.1
  have hic := hIS.ic
  have hle8 := hIS.2.2.1
  have h8e := hRM.2.1
  have hI0 := hI
  obtain ⟨hnv, hnl, hnt, hnh, hnv24, hnl120, hnt240, hnh120, hop, hopn, hparV, hsz4, himg⟩ := hI
  refine lv_iload_n hx hb dX5_take_0 rfl (lv_at hl 1 rfl) ?_
  refine lv_if_ge (tgt := 7) hx hb dX5_take_1 (by decide) (fun c1 => ?_) (fun c1 => ?_)
  · skip
    obtain ⟨i1, hi1, rfl⟩ := nI_of (fun q => absurd c1 (Int32.not_le.mpr q))
    refine lv_aload_n hx hb dX5_take_7 rfl (lv_at hl 0 rfl) ?_
    refine va_get (D := gD G) (ci := 5) (v := .int (u.1 8)) (C := RX5) (T := TX5) (N := 38) hx hb hts hiX5 hown hK hP 0 rfl rfl 8 (by decide) k178 (fun _ h9 => h9) rfl dX5_take_8 ?_
    refine lv_if_eq (tgt := 30) hx hb dX5_take_11 (by decide) (fun c11 => ?_) (fun c11 => ?_)
    · skip
      refine lv_iconst (v := (-1 : Int32)) hx hb dX5_take_30 (by decide) ?_
      refine lv_istore_n (lv' := [(2, .int (-1 : Int32)), (0, .ref (h 0)), (1, .int (nI i1))]) hx hb dX5_take_31 rfl hl (by decide) rfl (fun ls hl => ?_)
      refine lv_iload_n hx hb dX5_take_32 rfl (lv_at hl 0 rfl) ?_
      refine lv_if_ge (tgt := 41) hx hb dX5_take_33 (by decide) (fun c9 => absurd c9 (by decide)) (fun _ => ?_)
      refine lv_ldc (v := (-1000000003 : Int32)) hx hb hown (hts (.constant RX5 225 (-1000000003)) (List.mem_of_getElem? (i := 4) rfl)) dX5_take_36 ?_
      refine lv_goto (tgt := 46) hx hb dX5_take_38 (by decide) ?_
      exact W.iret (v := (-1000000003 : Int32)) hx hb hr (fun t ht hW => ⟨⟨(-1000000003 : Int32), (u, lt, sj), rfl, ⟨by rw [takF, if_neg (nI_pos (by omega)), vN_n' hi1, if_pos (show sg.1 8 = 0 ∨ olS sg ≤ i1 from Or.inl (nI_z (by omega) (h8e.symm.trans c11)))]; exact hRM, by rw [takA, if_neg (nI_pos (by omega)), vN_n' hi1, if_pos (show sg.1 8 = 0 ∨ olS sg ≤ i1 from Or.inl (nI_z (by omega) (h8e.symm.trans c11)))]⟩, show PP G (mw G h u lt sj) t.heap by rw [ht]; exact hP⟩, hS.F ht⟩) hS.2.2 dX5_take_46
    · skip
      obtain ⟨ho1, ho2⟩ := hopn (hop.resolve_left c11)
      refine lv_aload_n hx hb dX5_take_14 rfl (lv_at hl 0 rfl) ?_
      refine lv_aload_n hx hb dX5_take_15 rfl (lv_at hl 0 rfl) ?_
      refine lv_aload_n hx hb dX5_take_16 rfl (lv_at hl 0 rfl) ?_
      refine va_get (D := gD G) (ci := 5) (v := .int (u.1 0)) (C := RX5) (T := TX5) (N := 38) hx hb hts hiX5 hown hK hP 0 rfl rfl 0 (by decide) k91 (fun _ h9 => h9) rfl dX5_take_17 ?_
      refine topE hnv ?_
      have hP := mw_self26 hP
      have hD : va_D A (mw G h (oA u 26 (u.2 26)) lt sj) := mw_self26D hD
      refine cXi (As := [.int (nI (sg.1 0))]) (rest := [.ref (h 0)]) (S := oS × Int64 × (Nat → Int64)) (wa := mw G h (oA u 26 (u.2 26)) lt sj) (w1 := fun v => mw G h v.1 v.2.1 v.2.2) ⟨hx, hb, hml, hown, hts⟩ (mt_X5_changesOf l G h _ u lt sj (u.2 26) (sg.1 0) (by first | assumption | omega) (ho2)) (cwV 1 hts gX5_take_X5_changesOf rfl rfl rfl ⟨rfl, hd_X5_changesOf⟩ ⟨Nat.le_of_ble_eq_true rfl, Nat.le_of_ble_eq_true rfl⟩) hK hN hP hD hS hA (fun _ => rfl) 0 5 rfl rfl rfl hl.1 rfl (Nat.le_of_ble_eq_true rfl) ⟨Nat.zero_le _, Nat.zero_le _⟩ dX5_take_20 (fun r20 u20 H locs hw20 hP hD hS => ?_)
      obtain ⟨g20, rfl, rfl⟩ := hw20
      have hP : PP G (mw G h (oA u 26 g20) lt sj) H := hP
      have hD : va_D A (mw G h (oA u 26 g20) lt sj) := hD
      refine lv_iload_n hx hb dX5_take_23 rfl (lv_at hl 1 rfl) ?_
      refine cRi (w := mw G h (oA u 26 g20) lt sj) (As := [.int (chV (u.2 1) (u.2 2) (u.2 3) (nI (sg.1 0))), .int (nI i1)]) (rest := []) ⟨hx, hb, hml, hown, hts⟩ (mt_X5_lineAt l G h (oA u 26 g20) lt sj (sg.1 4) (chV (u.2 1) (u.2 2) (u.2 3) (nI (sg.1 0))) i1 (hnl) (by first | assumption | omega) (by omega)) (cwV 2 hts gX5_take_X5_lineAt rfl rfl rfl ⟨rfl, hd_X5_lineAt⟩ ⟨Nat.le_of_ble_eq_true rfl, Nat.le_of_ble_eq_true rfl⟩) hK hN hP 0 5 rfl rfl rfl hl.1 rfl (Nat.le_of_ble_eq_true rfl) ⟨Nat.zero_le _, Nat.zero_le _⟩ dX5_take_24 (fun r24 hw24 => ?_)
      rcases hw24 with ⟨i24, hi24, hp24, hq24, rfl⟩ | ⟨hq24, rfl⟩
      · skip
        have h81 := (show sg.1 8 = 1 by have h8 : ¬ sg.1 8 = 0 := (fun q9 => c11 (h8e.trans (by rw [q9]; rfl))); omega)
        obtain ⟨e24, o24⟩ := fndM (RepM_26 g20 hRM) hIS h81 hi24 hp24 hq24
        refine lv_goto (tgt := 31) hx hb dX5_take_27 (by decide) ?_
        refine lv_istore_n (lv' := [(2, .int (nI i24)), (0, .ref (h 0)), (1, .int (nI i1))]) hx hb dX5_take_31 rfl hl (by decide) rfl (fun ls hl => ?_)
        refine lv_iload_n hx hb dX5_take_32 rfl (lv_at hl 0 rfl) ?_
        refine lv_if_ge (tgt := 41) hx hb dX5_take_33 (by decide) (fun _ => ?_) (fun c9 => absurd (nI_pos' (by omega)) c9)
        refine lv_aload_n hx hb dX5_take_41 rfl (lv_at hl 1 rfl) ?_
        refine lv_iload_n hx hb dX5_take_42 rfl (lv_at hl 0 rfl) ?_
        refine cXi (As := [.int (nI i24)]) (rest := []) (S := oS × Int64 × (Nat → Int64)) (wa := mw G h (oA u 26 g20) lt sj) (w1 := fun v => mw G h v.1 v.2.1 v.2.2) ⟨hx, hb, hml, hown, hts⟩ (mt_X5_takeNowF l G h _ (oA u 26 g20) lt sj (sg.1 0) (sg.1 4) i24 (hnv) (hnl) (by first | assumption | omega) (by first | assumption | omega) (by first | assumption | omega)) (cwV 1 hts gX5_take_X5_takeNow rfl rfl rfl ⟨rfl, hd_X5_takeNow⟩ ⟨Nat.le_of_ble_eq_true rfl, Nat.le_of_ble_eq_true rfl⟩) hK hN hP hD hS hA (fun _ => rfl) 0 5 rfl rfl rfl hl.1 rfl (Nat.le_of_ble_eq_true rfl) ⟨Nat.zero_le _, Nat.zero_le _⟩ dX5_take_43 (fun r43 u43 H locs hw43 hP hD hS => ?_)
        rcases hw43 with ⟨hb43, rfl, rfl⟩ | ⟨hb43, f543, f643, f743, rfl, h543, h643, h743, rfl⟩
        · skip
          have hP : PP G (mw G h (oA (oA u 26 g20) 7 (upd ((oA u 26 g20).2 7) i24 ((oA u 26 g20).2 7 i24 ||| b1 (sg.1 0)))) lt sj) H := hP
          have hD : va_D A (mw G h (oA (oA u 26 g20) 7 (upd ((oA u 26 g20).2 7) i24 ((oA u 26 g20).2 7 i24 ||| b1 (sg.1 0)))) lt sj) := hD
          exact W.iret (v := (oA u 26 g20).2 5 i24) hx hb hr (fun t ht hW => ⟨⟨(oA u 26 g20).2 5 i24, (oA (oA u 26 g20) 7 (upd ((oA u 26 g20).2 7) i24 ((oA u 26 g20).2 7 i24 ||| b1 (sg.1 0))), lt, sj), rfl, ⟨by rw [takF, if_neg (nI_pos (by omega)), vN_n' hi1, if_neg (show ¬ (sg.1 8 = 0 ∨ olS sg ≤ i1) by omega), e24]; exact RepM_tk (RepM_26 g20 hRM) hi24 hb43, by rw [takA, if_neg (nI_pos (by omega)), vN_n' hi1, if_neg (show ¬ (sg.1 8 = 0 ∨ olS sg ≤ i1) by omega), e24]; exact hC.2.2.2.2.2.1 i24 hi24⟩, show PP G (mw G h (oA (oA u 26 g20) 7 (upd ((oA u 26 g20).2 7) i24 ((oA u 26 g20).2 7 i24 ||| b1 (sg.1 0)))) lt sj) t.heap by rw [ht]; exact hP⟩, hS.F ht⟩) hS.2.2 dX5_take_46
        · skip
          have hP : PP G (mw G h (oI (ln3 (oA u 26 g20) f543 f643 f743) 4 (nI ((sg.1 4) - 1))) lt sj) H := hP
          have hD : va_D A (mw G h (oI (ln3 (oA u 26 g20) f543 f643 f743) 4 (nI ((sg.1 4) - 1))) lt sj) := hD
          exact W.iret (v := (oA u 26 g20).2 5 i24) hx hb hr (fun t ht hW => ⟨⟨(oA u 26 g20).2 5 i24, (oI (ln3 (oA u 26 g20) f543 f643 f743) 4 (nI ((sg.1 4) - 1)), lt, sj), rfl, ⟨by rw [takF, if_neg (nI_pos (by omega)), vN_n' hi1, if_neg (show ¬ (sg.1 8 = 0 ∨ olS sg ≤ i1) by omega), e24]; exact RepM_del (RepM_26 g20 hRM) hi24 hb43 h543 h643 h743, by rw [takA, if_neg (nI_pos (by omega)), vN_n' hi1, if_neg (show ¬ (sg.1 8 = 0 ∨ olS sg ≤ i1) by omega), e24]; exact hC.2.2.2.2.2.1 i24 hi24⟩, show PP G (mw G h (oI (ln3 (oA u 26 g20) f543 f643 f743) 4 (nI ((sg.1 4) - 1))) lt sj) t.heap by rw [ht]; exact hP⟩, hS.F ht⟩) hS.2.2 dX5_take_46
      · skip
        have h81 := (show sg.1 8 = 1 by have h8 : ¬ sg.1 8 = 0 := (fun q9 => c11 (h8e.trans (by rw [q9]; rfl))); omega)
        have o24 : olS sg ≤ i1 := Nat.le_trans (Nat.le_of_eq (olM (RepM_26 g20 hRM) hIS h81).symm) hq24
        refine lv_goto (tgt := 31) hx hb dX5_take_27 (by decide) ?_
        refine lv_istore_n (lv' := [(2, .int (-1 : Int32)), (0, .ref (h 0)), (1, .int (nI i1))]) hx hb dX5_take_31 rfl hl (by decide) rfl (fun ls hl => ?_)
        refine lv_iload_n hx hb dX5_take_32 rfl (lv_at hl 0 rfl) ?_
        refine lv_if_ge (tgt := 41) hx hb dX5_take_33 (by decide) (fun c9 => absurd c9 (by decide)) (fun _ => ?_)
        refine lv_ldc (v := (-1000000003 : Int32)) hx hb hown (hts (.constant RX5 225 (-1000000003)) (List.mem_of_getElem? (i := 4) rfl)) dX5_take_36 ?_
        refine lv_goto (tgt := 46) hx hb dX5_take_38 (by decide) ?_
        exact W.iret (v := (-1000000003 : Int32)) hx hb hr (fun t ht hW => ⟨⟨(-1000000003 : Int32), (oA u 26 g20, lt, sj), rfl, ⟨by rw [takF, if_neg (nI_pos (by omega)), vN_n' hi1, if_pos (show sg.1 8 = 0 ∨ olS sg ≤ i1 from Or.inr o24)]; exact RepM_26 _ hRM, by rw [takA, if_neg (nI_pos (by omega)), vN_n' hi1, if_pos (show sg.1 8 = 0 ∨ olS sg ≤ i1 from Or.inr o24)]⟩, show PP G (mw G h (oA u 26 g20) lt sj) t.heap by rw [ht]; exact hP⟩, hS.F ht⟩) hS.2.2 dX5_take_46
  · skip
    refine lv_ldc (v := (-1000000002 : Int32)) hx hb hown (hts (.constant RX5 100 (-1000000002)) (List.mem_of_getElem? (i := 1) rfl)) dX5_take_4 ?_
    exact W.iret (v := (-1000000002 : Int32)) hx hb hr (fun t ht hW => ⟨⟨(-1000000002 : Int32), (u, lt, sj), rfl, ⟨by rw [takF, if_pos (Int32.not_le.mp c1)]; exact hRM, by rw [takA, if_pos (Int32.not_le.mp c1)]⟩, show PP G (mw G h u lt sj) t.heap by rw [ht]; exact hP⟩, hS.F ht⟩) hS.2.2 dX5_take_6
set_option maxHeartbeats 1000000 in
set_option maxRecDepth 100000 in
theorem mt_X5_leaveS (l : Launch) (G : gG) (h : Nat → Nat) (sz : Nat) (u : oS) (lt : Int64) (sj : Nat → Int64) (sg : pS) (zz : Nat → Nat → Int64) (nh : Nat) (hI : MIx u (sg.1 0) (sg.1 4) (sg.1 10) nh) (hIS : IS sg) (hRM : RepM u sj sg zz) : Met l yX5_leave wsX5_leave ({ frames := 4, cells := 0, slots := 0, locals := 86 }) (preW G (mw G h u lt sj) sz [.ref (h 0)]) (va_Qi (fun (r : Int32) (v : oS × Int64 × (Nat → Int64)) => RepM v.1 v.2.2 (leaF sg) (zz) ∧ r = leaA sg) (fun v t => PP G (mw G h v.1 v.2.1 v.2.2) t.heap) (va_A (mw G h u lt sj) sz)) 0 0 (va_A (mw G h u lt sj) sz) := by
  refine Met.ofW (cc := cX5_leave) (maxL := 2) (ret := (some .int)) (by decide) rfl ?_
  intro p e s m args below meth c s₁ B hml hv
  obtain ⟨ha, hsz, hP, hK, hN, hD0⟩ := hv
  subst ha
  have hx := B.exec
  have hb := B.bytes
  have hr := B.returns
  have hts := atoms_spec (ws := wsX5_leave) B.pre
  have hown : s.vm.findClass RX5 = some m.cls := findClass_of_methodNamed B.named
  have hlocks := B.notSynchronized
  subst hsz
  have hD := hD0.self (sz := s.heap.size)
  generalize hAe : va_A (mw G h u lt sj) s.heap.size = A at hD ⊢
  have hA : ∀ q : Nat, s.heap.size ≤ q → A q := fun q h => by rw [← hAe]; exact Or.inr h
  clear hAe hD0
  have hS : va_S A s.heap s.heap [] := va_S.rf
  have hiX5 : ∀ w ∈ wsX50, w ∈ wsX5_leave := fun w h9 => List.mem_cons_of_mem _ (List.mem_append_right _ (h9))
  have k178 := hts (.fieldLink RX5 178 "WovenHistoryModel" "isOpen" "Z") (List.mem_of_getElem? (i := 1) rfl)
  have k229 := hts (.fieldLink RX5 229 "WovenHistoryModel" "heldLines" "I") (List.mem_of_getElem? (i := 3) rfl)
  have k175 := hts (.fieldLink RX5 175 "WovenHistoryModel" "lines" "I") (List.mem_of_getElem? (i := 4) rfl)
  have k63 := hts (.fieldLink RX5 63 "WovenHistoryModel" "heldLetter" "[I") (List.mem_of_getElem? (i := 5) rfl)
  have k19 := hts (.fieldLink RX5 19 "WovenHistoryModel" "letter" "[I") (List.mem_of_getElem? (i := 6) rfl)
  have k66 := hts (.fieldLink RX5 66 "WovenHistoryModel" "heldBrought" "[I") (List.mem_of_getElem? (i := 7) rfl)
  have k22 := hts (.fieldLink RX5 22 "WovenHistoryModel" "brought" "[I") (List.mem_of_getElem? (i := 8) rfl)
  have k69 := hts (.fieldLink RX5 69 "WovenHistoryModel" "heldTook" "[I") (List.mem_of_getElem? (i := 9) rfl)
  have k25 := hts (.fieldLink RX5 25 "WovenHistoryModel" "took" "[I") (List.mem_of_getElem? (i := 10) rfl)
  have hl := lv_entry ([.ref (h 0)]) (n := 2) (Nat.le_of_ble_eq_true rfl)
  rw [lg_entry_eq]
  generalize (lg_sl ([.ref (h 0)]) ++ List.replicate (2 - (lg_sl ([.ref (h 0)])).length) Slot.unset).toArray = ls at hl ⊢
  have hl : lv_has ls 2 [(0, .ref (h 0))] := hl
  have hC := hRM.1
  have hic := hIS.ic
  have hle8 := hIS.2.2.1
  have h8e := hRM.2.1
  have hI0 := hI
  obtain ⟨hnv, hnl, hnt, hnh, hnv24, hnl120, hnt240, hnh120, hop, hopn, hparV, hsz4, himg⟩ := hI
  refine lv_aload_n hx hb dX5_leave_0 rfl (lv_at hl 0 rfl) ?_
  refine va_get (D := gD G) (ci := 5) (v := .int (u.1 8)) (C := RX5) (T := TX5) (N := 38) hx hb hts hiX5 hown hK hP 0 rfl rfl 8 (by decide) k178 (fun _ h9 => h9) rfl dX5_leave_1 ?_
  refine lv_if_ne (tgt := 10) hx hb dX5_leave_4 (by decide) (fun c4 => ?_) (fun c4 => ?_)
  · skip
    obtain ⟨ho1, ho2⟩ := hopn (hop.resolve_left c4)
    refine lv_aload_n hx hb dX5_leave_10 rfl (lv_at hl 0 rfl) ?_
    have hP := mw_self26 hP
    have hD : va_D A (mw G h (oA u 26 (u.2 26)) lt sj) := mw_self26D hD
    refine cXi (As := []) (rest := []) (S := oS × Int64 × (Nat → Int64)) (wa := mw G h (oA u 26 (u.2 26)) lt sj) (w1 := fun v => mw G h v.1 v.2.1 v.2.2) ⟨hx, hb, hml, hown, hts⟩ (mt_X5_openLines l G h _ u lt sj (u.2 26) (sg.1 0) (sg.1 4) (hnv) (hnl) (by first | assumption | omega) (by first | assumption | omega) (ho2)) (cwV 0 hts gX5_leave_X5_openLines rfl rfl rfl ⟨rfl, hd_X5_openLines⟩ ⟨Nat.le_of_ble_eq_true rfl, Nat.le_of_ble_eq_true rfl⟩) hK hN hP hD hS hA (fun _ => rfl) 0 5 rfl rfl rfl hl.1 rfl (Nat.le_of_ble_eq_true rfl) ⟨Nat.zero_le _, Nat.zero_le _⟩ dX5_leave_11 (fun r11 u11 H locs hw11 hP hD hS => ?_)
    obtain ⟨g11, rfl, rfl⟩ := hw11
    have hP : PP G (mw G h (oA u 26 g11) lt sj) H := hP
    have hD : va_D A (mw G h (oA u 26 g11) lt sj) := hD
    have hc11 := cnt_le (sdb (u.2 6) (u.2 7) (chV (u.2 1) (u.2 2) (u.2 3) (nI (sg.1 0)))) (sg.1 4)
    refine lv_istore_n (lv' := [(1, .int (nI (cnt (sdb (u.2 6) (u.2 7) (chV (u.2 1) (u.2 2) (u.2 3) (nI (sg.1 0)))) (sg.1 4)))), (0, .ref (h 0))]) hx hb dX5_leave_14 rfl hl (by decide) rfl (fun ls hl => ?_)
    refine lv_aload_n hx hb dX5_leave_15 rfl (lv_at hl 1 rfl) ?_
    refine lv_iconst (v := nI 0) hx hb dX5_leave_16 (by decide) ?_
    refine va_put (D := gD G) (ci := 5) (v := .int (nI 0)) (ty := .boolean) (C := RX5) (T := TX5) (N := 38) hx hb hts hiX5 tyX5 tyX5_ok nmX5 hown hK hP hD hS 0 rfl rfl 8 (by decide) k178 (fun _ h9 => h9) rfl (tyX5_ok 8 (by decide)) (rfl) (rfl) (Nat.le_of_ble_eq_true rfl) dX5_leave_17 (fun H locs hP hD hS => ?_)
    have hP : PP G (mw G h (oI (oA u 26 g11) 8 (nI 0)) lt sj) H := hP
    have hD : va_D A (mw G h (oI (oA u 26 g11) 8 (nI 0)) lt sj) := hD
    refine lv_aload_n hx hb dX5_leave_20 rfl (lv_at hl 1 rfl) ?_
    refine lv_aload_n hx hb dX5_leave_21 rfl (lv_at hl 1 rfl) ?_
    refine va_get (D := gD G) (ci := 5) (v := .int ((oI (oA u 26 g11) 8 (nI 0)).1 27)) (C := RX5) (T := TX5) (N := 38) hx hb hts hiX5 hown hK hP 0 rfl rfl 27 (by decide) k229 (fun _ h9 => h9) rfl dX5_leave_22 ?_
    refine topE hnh ?_
    refine va_put (D := gD G) (ci := 5) (v := .int (nI nh)) (ty := .int) (C := RX5) (T := TX5) (N := 38) hx hb hts hiX5 tyX5 tyX5_ok nmX5 hown hK hP hD hS 0 rfl rfl 4 (by decide) k175 (fun _ h9 => h9) rfl (tyX5_ok 4 (by decide)) (rfl) (rfl) (Nat.le_of_ble_eq_true rfl) dX5_leave_25 (fun H locs hP hD hS => ?_)
    have hP : PP G (mw G h (oI (oI (oA u 26 g11) 8 (nI 0)) 4 (nI nh)) lt sj) H := hP
    have hD : va_D A (mw G h (oI (oI (oA u 26 g11) 8 (nI 0)) 4 (nI nh)) lt sj) := hD
    refine lv_aload_n hx hb dX5_leave_28 rfl (lv_at hl 1 rfl) ?_
    refine va_get (D := gD G) (ci := 5) (v := .ref (h 28)) (C := RX5) (T := TX5) (N := 38) hx hb hts hiX5 hown hK hP 0 rfl rfl 28 (by decide) k63 (fun _ h9 => h9) rfl dX5_leave_29 ?_
    refine lv_aload_n hx hb dX5_leave_32 rfl (lv_at hl 1 rfl) ?_
    refine va_get (D := gD G) (ci := 5) (v := .ref (h 5)) (C := RX5) (T := TX5) (N := 38) hx hb hts hiX5 hown hK hP 0 rfl rfl 5 (by decide) k19 (fun _ h9 => h9) rfl dX5_leave_33 ?_
    refine lv_aload_n hx hb dX5_leave_36 rfl (lv_at hl 1 rfl) ?_
    refine va_get (D := gD G) (ci := 5) (v := .int (nI nh)) (C := RX5) (T := TX5) (N := 38) hx hb hts hiX5 hown hK hP 0 rfl rfl 4 (by decide) k175 (fun _ h9 => h9) rfl dX5_leave_37 ?_
    refine cSWv (As := [.ref (h 28), .ref (h 5), .int (nI nh)]) (rest := []) (wa := mw G h (oI (oI (oA u 26 g11) 8 (nI 0)) 4 (nI nh)) lt sj) (wc := aw G (h 28) (h 5) 120 120 ((oI (oI (oA u 26 g11) 8 (nI 0)) 4 (nI nh)).2 28) ((oI (oI (oA u 26 g11) 8 (nI 0)) 4 (nI nh)).2 5)) (w1 := aw G (h 28) (h 5) 120 120 ((oI (oI (oA u 26 g11) 8 (nI 0)) 4 (nI nh)).2 28) (cpr ((oI (oI (oA u 26 g11) 8 (nI 0)) 4 (nI nh)).2 28) ((oI (oI (oA u 26 g11) 8 (nI 0)) 4 (nI nh)).2 5) nh)) (wa' := mw G h (oA (oI (oI (oA u 26 g11) 8 (nI 0)) 4 (nI nh)) 5 (cpr ((oI (oI (oA u 26 g11) 8 (nI 0)) 4 (nI nh)).2 28) ((oI (oI (oA u 26 g11) 8 (nI 0)) 4 (nI nh)).2 5) nh)) lt sj) ⟨hx, hb, hml, hown, hts⟩ (mt_copyRow l G _ (h 28) (h 5) 120 120 ((oI (oI (oA u 26 g11) 8 (nI 0)) 4 (nI nh)).2 28) ((oI (oI (oA u 26 g11) 8 (nI 0)) 4 (nI nh)).2 5) nh (by omega) (by omega) rfl rfl) (va_cwS 3 hts gX5_leave_X5_copyRow rfl rfl rfl hd_X5_copyRow ⟨Nat.le_of_ble_eq_true rfl, Nat.le_of_ble_eq_true rfl⟩) hK hN hP hD hS hA [17, 4] rfl (by decide) rfl rfl rfl rfl rfl hl.1 rfl (Nat.le_of_ble_eq_true rfl) ⟨Nat.zero_le _, Nat.zero_le _⟩ dX5_leave_40 (fun H locs hP hD hS => ?_)
    refine lv_aload_n hx hb dX5_leave_43 rfl (lv_at hl 1 rfl) ?_
    refine va_get (D := gD G) (ci := 5) (v := .ref (h 29)) (C := RX5) (T := TX5) (N := 38) hx hb hts hiX5 hown hK hP 0 rfl rfl 29 (by decide) k66 (fun _ h9 => h9) rfl dX5_leave_44 ?_
    refine lv_aload_n hx hb dX5_leave_47 rfl (lv_at hl 1 rfl) ?_
    refine va_get (D := gD G) (ci := 5) (v := .ref (h 6)) (C := RX5) (T := TX5) (N := 38) hx hb hts hiX5 hown hK hP 0 rfl rfl 6 (by decide) k22 (fun _ h9 => h9) rfl dX5_leave_48 ?_
    refine lv_aload_n hx hb dX5_leave_51 rfl (lv_at hl 1 rfl) ?_
    refine va_get (D := gD G) (ci := 5) (v := .int (nI nh)) (C := RX5) (T := TX5) (N := 38) hx hb hts hiX5 hown hK hP 0 rfl rfl 4 (by decide) k175 (fun _ h9 => h9) rfl dX5_leave_52 ?_
    refine cSWv (As := [.ref (h 29), .ref (h 6), .int (nI nh)]) (rest := []) (wa := mw G h (oA (oI (oI (oA u 26 g11) 8 (nI 0)) 4 (nI nh)) 5 (cpr ((oI (oI (oA u 26 g11) 8 (nI 0)) 4 (nI nh)).2 28) ((oI (oI (oA u 26 g11) 8 (nI 0)) 4 (nI nh)).2 5) nh)) lt sj) (wc := aw G (h 29) (h 6) 120 120 ((oA (oI (oI (oA u 26 g11) 8 (nI 0)) 4 (nI nh)) 5 (cpr ((oI (oI (oA u 26 g11) 8 (nI 0)) 4 (nI nh)).2 28) ((oI (oI (oA u 26 g11) 8 (nI 0)) 4 (nI nh)).2 5) nh)).2 29) ((oA (oI (oI (oA u 26 g11) 8 (nI 0)) 4 (nI nh)) 5 (cpr ((oI (oI (oA u 26 g11) 8 (nI 0)) 4 (nI nh)).2 28) ((oI (oI (oA u 26 g11) 8 (nI 0)) 4 (nI nh)).2 5) nh)).2 6)) (w1 := aw G (h 29) (h 6) 120 120 ((oA (oI (oI (oA u 26 g11) 8 (nI 0)) 4 (nI nh)) 5 (cpr ((oI (oI (oA u 26 g11) 8 (nI 0)) 4 (nI nh)).2 28) ((oI (oI (oA u 26 g11) 8 (nI 0)) 4 (nI nh)).2 5) nh)).2 29) (cpr ((oA (oI (oI (oA u 26 g11) 8 (nI 0)) 4 (nI nh)) 5 (cpr ((oI (oI (oA u 26 g11) 8 (nI 0)) 4 (nI nh)).2 28) ((oI (oI (oA u 26 g11) 8 (nI 0)) 4 (nI nh)).2 5) nh)).2 29) ((oA (oI (oI (oA u 26 g11) 8 (nI 0)) 4 (nI nh)) 5 (cpr ((oI (oI (oA u 26 g11) 8 (nI 0)) 4 (nI nh)).2 28) ((oI (oI (oA u 26 g11) 8 (nI 0)) 4 (nI nh)).2 5) nh)).2 6) nh)) (wa' := mw G h (oA (oA (oI (oI (oA u 26 g11) 8 (nI 0)) 4 (nI nh)) 5 (cpr ((oI (oI (oA u 26 g11) 8 (nI 0)) 4 (nI nh)).2 28) ((oI (oI (oA u 26 g11) 8 (nI 0)) 4 (nI nh)).2 5) nh)) 6 (cpr ((oA (oI (oI (oA u 26 g11) 8 (nI 0)) 4 (nI nh)) 5 (cpr ((oI (oI (oA u 26 g11) 8 (nI 0)) 4 (nI nh)).2 28) ((oI (oI (oA u 26 g11) 8 (nI 0)) 4 (nI nh)).2 5) nh)).2 29) ((oA (oI (oI (oA u 26 g11) 8 (nI 0)) 4 (nI nh)) 5 (cpr ((oI (oI (oA u 26 g11) 8 (nI 0)) 4 (nI nh)).2 28) ((oI (oI (oA u 26 g11) 8 (nI 0)) 4 (nI nh)).2 5) nh)).2 6) nh)) lt sj) ⟨hx, hb, hml, hown, hts⟩ (mt_copyRow l G _ (h 29) (h 6) 120 120 ((oA (oI (oI (oA u 26 g11) 8 (nI 0)) 4 (nI nh)) 5 (cpr ((oI (oI (oA u 26 g11) 8 (nI 0)) 4 (nI nh)).2 28) ((oI (oI (oA u 26 g11) 8 (nI 0)) 4 (nI nh)).2 5) nh)).2 29) ((oA (oI (oI (oA u 26 g11) 8 (nI 0)) 4 (nI nh)) 5 (cpr ((oI (oI (oA u 26 g11) 8 (nI 0)) 4 (nI nh)).2 28) ((oI (oI (oA u 26 g11) 8 (nI 0)) 4 (nI nh)).2 5) nh)).2 6) nh (by omega) (by omega) rfl rfl) (va_cwS 3 hts gX5_leave_X5_copyRow rfl rfl rfl hd_X5_copyRow ⟨Nat.le_of_ble_eq_true rfl, Nat.le_of_ble_eq_true rfl⟩) hK hN hP hD hS hA [18, 5] rfl (by decide) rfl rfl rfl rfl rfl hl.1 rfl (Nat.le_of_ble_eq_true rfl) ⟨Nat.zero_le _, Nat.zero_le _⟩ dX5_leave_55 (fun H locs hP hD hS => ?_)
    refine lv_aload_n hx hb dX5_leave_58 rfl (lv_at hl 1 rfl) ?_
    refine va_get (D := gD G) (ci := 5) (v := .ref (h 30)) (C := RX5) (T := TX5) (N := 38) hx hb hts hiX5 hown hK hP 0 rfl rfl 30 (by decide) k69 (fun _ h9 => h9) rfl dX5_leave_59 ?_
    refine lv_aload_n hx hb dX5_leave_62 rfl (lv_at hl 1 rfl) ?_
    refine va_get (D := gD G) (ci := 5) (v := .ref (h 7)) (C := RX5) (T := TX5) (N := 38) hx hb hts hiX5 hown hK hP 0 rfl rfl 7 (by decide) k25 (fun _ h9 => h9) rfl dX5_leave_63 ?_
    refine lv_aload_n hx hb dX5_leave_66 rfl (lv_at hl 1 rfl) ?_
    refine va_get (D := gD G) (ci := 5) (v := .int (nI nh)) (C := RX5) (T := TX5) (N := 38) hx hb hts hiX5 hown hK hP 0 rfl rfl 4 (by decide) k175 (fun _ h9 => h9) rfl dX5_leave_67 ?_
    refine cSWv (As := [.ref (h 30), .ref (h 7), .int (nI nh)]) (rest := []) (wa := mw G h (oA (oA (oI (oI (oA u 26 g11) 8 (nI 0)) 4 (nI nh)) 5 (cpr ((oI (oI (oA u 26 g11) 8 (nI 0)) 4 (nI nh)).2 28) ((oI (oI (oA u 26 g11) 8 (nI 0)) 4 (nI nh)).2 5) nh)) 6 (cpr ((oA (oI (oI (oA u 26 g11) 8 (nI 0)) 4 (nI nh)) 5 (cpr ((oI (oI (oA u 26 g11) 8 (nI 0)) 4 (nI nh)).2 28) ((oI (oI (oA u 26 g11) 8 (nI 0)) 4 (nI nh)).2 5) nh)).2 29) ((oA (oI (oI (oA u 26 g11) 8 (nI 0)) 4 (nI nh)) 5 (cpr ((oI (oI (oA u 26 g11) 8 (nI 0)) 4 (nI nh)).2 28) ((oI (oI (oA u 26 g11) 8 (nI 0)) 4 (nI nh)).2 5) nh)).2 6) nh)) lt sj) (wc := aw G (h 30) (h 7) 120 120 ((oA (oA (oI (oI (oA u 26 g11) 8 (nI 0)) 4 (nI nh)) 5 (cpr ((oI (oI (oA u 26 g11) 8 (nI 0)) 4 (nI nh)).2 28) ((oI (oI (oA u 26 g11) 8 (nI 0)) 4 (nI nh)).2 5) nh)) 6 (cpr ((oA (oI (oI (oA u 26 g11) 8 (nI 0)) 4 (nI nh)) 5 (cpr ((oI (oI (oA u 26 g11) 8 (nI 0)) 4 (nI nh)).2 28) ((oI (oI (oA u 26 g11) 8 (nI 0)) 4 (nI nh)).2 5) nh)).2 29) ((oA (oI (oI (oA u 26 g11) 8 (nI 0)) 4 (nI nh)) 5 (cpr ((oI (oI (oA u 26 g11) 8 (nI 0)) 4 (nI nh)).2 28) ((oI (oI (oA u 26 g11) 8 (nI 0)) 4 (nI nh)).2 5) nh)).2 6) nh)).2 30) ((oA (oA (oI (oI (oA u 26 g11) 8 (nI 0)) 4 (nI nh)) 5 (cpr ((oI (oI (oA u 26 g11) 8 (nI 0)) 4 (nI nh)).2 28) ((oI (oI (oA u 26 g11) 8 (nI 0)) 4 (nI nh)).2 5) nh)) 6 (cpr ((oA (oI (oI (oA u 26 g11) 8 (nI 0)) 4 (nI nh)) 5 (cpr ((oI (oI (oA u 26 g11) 8 (nI 0)) 4 (nI nh)).2 28) ((oI (oI (oA u 26 g11) 8 (nI 0)) 4 (nI nh)).2 5) nh)).2 29) ((oA (oI (oI (oA u 26 g11) 8 (nI 0)) 4 (nI nh)) 5 (cpr ((oI (oI (oA u 26 g11) 8 (nI 0)) 4 (nI nh)).2 28) ((oI (oI (oA u 26 g11) 8 (nI 0)) 4 (nI nh)).2 5) nh)).2 6) nh)).2 7)) (w1 := aw G (h 30) (h 7) 120 120 ((oA (oA (oI (oI (oA u 26 g11) 8 (nI 0)) 4 (nI nh)) 5 (cpr ((oI (oI (oA u 26 g11) 8 (nI 0)) 4 (nI nh)).2 28) ((oI (oI (oA u 26 g11) 8 (nI 0)) 4 (nI nh)).2 5) nh)) 6 (cpr ((oA (oI (oI (oA u 26 g11) 8 (nI 0)) 4 (nI nh)) 5 (cpr ((oI (oI (oA u 26 g11) 8 (nI 0)) 4 (nI nh)).2 28) ((oI (oI (oA u 26 g11) 8 (nI 0)) 4 (nI nh)).2 5) nh)).2 29) ((oA (oI (oI (oA u 26 g11) 8 (nI 0)) 4 (nI nh)) 5 (cpr ((oI (oI (oA u 26 g11) 8 (nI 0)) 4 (nI nh)).2 28) ((oI (oI (oA u 26 g11) 8 (nI 0)) 4 (nI nh)).2 5) nh)).2 6) nh)).2 30) (cpr ((oA (oA (oI (oI (oA u 26 g11) 8 (nI 0)) 4 (nI nh)) 5 (cpr ((oI (oI (oA u 26 g11) 8 (nI 0)) 4 (nI nh)).2 28) ((oI (oI (oA u 26 g11) 8 (nI 0)) 4 (nI nh)).2 5) nh)) 6 (cpr ((oA (oI (oI (oA u 26 g11) 8 (nI 0)) 4 (nI nh)) 5 (cpr ((oI (oI (oA u 26 g11) 8 (nI 0)) 4 (nI nh)).2 28) ((oI (oI (oA u 26 g11) 8 (nI 0)) 4 (nI nh)).2 5) nh)).2 29) ((oA (oI (oI (oA u 26 g11) 8 (nI 0)) 4 (nI nh)) 5 (cpr ((oI (oI (oA u 26 g11) 8 (nI 0)) 4 (nI nh)).2 28) ((oI (oI (oA u 26 g11) 8 (nI 0)) 4 (nI nh)).2 5) nh)).2 6) nh)).2 30) ((oA (oA (oI (oI (oA u 26 g11) 8 (nI 0)) 4 (nI nh)) 5 (cpr ((oI (oI (oA u 26 g11) 8 (nI 0)) 4 (nI nh)).2 28) ((oI (oI (oA u 26 g11) 8 (nI 0)) 4 (nI nh)).2 5) nh)) 6 (cpr ((oA (oI (oI (oA u 26 g11) 8 (nI 0)) 4 (nI nh)) 5 (cpr ((oI (oI (oA u 26 g11) 8 (nI 0)) 4 (nI nh)).2 28) ((oI (oI (oA u 26 g11) 8 (nI 0)) 4 (nI nh)).2 5) nh)).2 29) ((oA (oI (oI (oA u 26 g11) 8 (nI 0)) 4 (nI nh)) 5 (cpr ((oI (oI (oA u 26 g11) 8 (nI 0)) 4 (nI nh)).2 28) ((oI (oI (oA u 26 g11) 8 (nI 0)) 4 (nI nh)).2 5) nh)).2 6) nh)).2 7) nh)) (wa' := mw G h (oA (oA (oA (oI (oI (oA u 26 g11) 8 (nI 0)) 4 (nI nh)) 5 (cpr ((oI (oI (oA u 26 g11) 8 (nI 0)) 4 (nI nh)).2 28) ((oI (oI (oA u 26 g11) 8 (nI 0)) 4 (nI nh)).2 5) nh)) 6 (cpr ((oA (oI (oI (oA u 26 g11) 8 (nI 0)) 4 (nI nh)) 5 (cpr ((oI (oI (oA u 26 g11) 8 (nI 0)) 4 (nI nh)).2 28) ((oI (oI (oA u 26 g11) 8 (nI 0)) 4 (nI nh)).2 5) nh)).2 29) ((oA (oI (oI (oA u 26 g11) 8 (nI 0)) 4 (nI nh)) 5 (cpr ((oI (oI (oA u 26 g11) 8 (nI 0)) 4 (nI nh)).2 28) ((oI (oI (oA u 26 g11) 8 (nI 0)) 4 (nI nh)).2 5) nh)).2 6) nh)) 7 (cpr ((oA (oA (oI (oI (oA u 26 g11) 8 (nI 0)) 4 (nI nh)) 5 (cpr ((oI (oI (oA u 26 g11) 8 (nI 0)) 4 (nI nh)).2 28) ((oI (oI (oA u 26 g11) 8 (nI 0)) 4 (nI nh)).2 5) nh)) 6 (cpr ((oA (oI (oI (oA u 26 g11) 8 (nI 0)) 4 (nI nh)) 5 (cpr ((oI (oI (oA u 26 g11) 8 (nI 0)) 4 (nI nh)).2 28) ((oI (oI (oA u 26 g11) 8 (nI 0)) 4 (nI nh)).2 5) nh)).2 29) ((oA (oI (oI (oA u 26 g11) 8 (nI 0)) 4 (nI nh)) 5 (cpr ((oI (oI (oA u 26 g11) 8 (nI 0)) 4 (nI nh)).2 28) ((oI (oI (oA u 26 g11) 8 (nI 0)) 4 (nI nh)).2 5) nh)).2 6) nh)).2 30) ((oA (oA (oI (oI (oA u 26 g11) 8 (nI 0)) 4 (nI nh)) 5 (cpr ((oI (oI (oA u 26 g11) 8 (nI 0)) 4 (nI nh)).2 28) ((oI (oI (oA u 26 g11) 8 (nI 0)) 4 (nI nh)).2 5) nh)) 6 (cpr ((oA (oI (oI (oA u 26 g11) 8 (nI 0)) 4 (nI nh)) 5 (cpr ((oI (oI (oA u 26 g11) 8 (nI 0)) 4 (nI nh)).2 28) ((oI (oI (oA u 26 g11) 8 (nI 0)) 4 (nI nh)).2 5) nh)).2 29) ((oA (oI (oI (oA u 26 g11) 8 (nI 0)) 4 (nI nh)) 5 (cpr ((oI (oI (oA u 26 g11) 8 (nI 0)) 4 (nI nh)).2 28) ((oI (oI (oA u 26 g11) 8 (nI 0)) 4 (nI nh)).2 5) nh)).2 6) nh)).2 7) nh)) lt sj) ⟨hx, hb, hml, hown, hts⟩ (mt_copyRow l G _ (h 30) (h 7) 120 120 ((oA (oA (oI (oI (oA u 26 g11) 8 (nI 0)) 4 (nI nh)) 5 (cpr ((oI (oI (oA u 26 g11) 8 (nI 0)) 4 (nI nh)).2 28) ((oI (oI (oA u 26 g11) 8 (nI 0)) 4 (nI nh)).2 5) nh)) 6 (cpr ((oA (oI (oI (oA u 26 g11) 8 (nI 0)) 4 (nI nh)) 5 (cpr ((oI (oI (oA u 26 g11) 8 (nI 0)) 4 (nI nh)).2 28) ((oI (oI (oA u 26 g11) 8 (nI 0)) 4 (nI nh)).2 5) nh)).2 29) ((oA (oI (oI (oA u 26 g11) 8 (nI 0)) 4 (nI nh)) 5 (cpr ((oI (oI (oA u 26 g11) 8 (nI 0)) 4 (nI nh)).2 28) ((oI (oI (oA u 26 g11) 8 (nI 0)) 4 (nI nh)).2 5) nh)).2 6) nh)).2 30) ((oA (oA (oI (oI (oA u 26 g11) 8 (nI 0)) 4 (nI nh)) 5 (cpr ((oI (oI (oA u 26 g11) 8 (nI 0)) 4 (nI nh)).2 28) ((oI (oI (oA u 26 g11) 8 (nI 0)) 4 (nI nh)).2 5) nh)) 6 (cpr ((oA (oI (oI (oA u 26 g11) 8 (nI 0)) 4 (nI nh)) 5 (cpr ((oI (oI (oA u 26 g11) 8 (nI 0)) 4 (nI nh)).2 28) ((oI (oI (oA u 26 g11) 8 (nI 0)) 4 (nI nh)).2 5) nh)).2 29) ((oA (oI (oI (oA u 26 g11) 8 (nI 0)) 4 (nI nh)) 5 (cpr ((oI (oI (oA u 26 g11) 8 (nI 0)) 4 (nI nh)).2 28) ((oI (oI (oA u 26 g11) 8 (nI 0)) 4 (nI nh)).2 5) nh)).2 6) nh)).2 7) nh (by omega) (by omega) rfl rfl) (va_cwS 3 hts gX5_leave_X5_copyRow rfl rfl rfl hd_X5_copyRow ⟨Nat.le_of_ble_eq_true rfl, Nat.le_of_ble_eq_true rfl⟩) hK hN hP hD hS hA [19, 6] rfl (by decide) rfl rfl rfl rfl rfl hl.1 rfl (Nat.le_of_ble_eq_true rfl) ⟨Nat.zero_le _, Nat.zero_le _⟩ dX5_leave_70 (fun H locs hP hD hS => ?_)
    refine lv_iload_n hx hb dX5_leave_73 rfl (lv_at hl 0 rfl) ?_
    exact W.iret (v := nI (cnt (sdb (u.2 6) (u.2 7) (chV (u.2 1) (u.2 2) (u.2 3) (nI (sg.1 0)))) (sg.1 4))) hx hb hr (fun t ht hW => ⟨⟨nI (cnt (sdb (u.2 6) (u.2 7) (chV (u.2 1) (u.2 2) (u.2 3) (nI (sg.1 0)))) (sg.1 4)), (oA (oA (oA (oI (oI (oA u 26 g11) 8 (nI 0)) 4 (nI nh)) 5 (cpr ((oI (oI (oA u 26 g11) 8 (nI 0)) 4 (nI nh)).2 28) ((oI (oI (oA u 26 g11) 8 (nI 0)) 4 (nI nh)).2 5) nh)) 6 (cpr ((oA (oI (oI (oA u 26 g11) 8 (nI 0)) 4 (nI nh)) 5 (cpr ((oI (oI (oA u 26 g11) 8 (nI 0)) 4 (nI nh)).2 28) ((oI (oI (oA u 26 g11) 8 (nI 0)) 4 (nI nh)).2 5) nh)).2 29) ((oA (oI (oI (oA u 26 g11) 8 (nI 0)) 4 (nI nh)) 5 (cpr ((oI (oI (oA u 26 g11) 8 (nI 0)) 4 (nI nh)).2 28) ((oI (oI (oA u 26 g11) 8 (nI 0)) 4 (nI nh)).2 5) nh)).2 6) nh)) 7 (cpr ((oA (oA (oI (oI (oA u 26 g11) 8 (nI 0)) 4 (nI nh)) 5 (cpr ((oI (oI (oA u 26 g11) 8 (nI 0)) 4 (nI nh)).2 28) ((oI (oI (oA u 26 g11) 8 (nI 0)) 4 (nI nh)).2 5) nh)) 6 (cpr ((oA (oI (oI (oA u 26 g11) 8 (nI 0)) 4 (nI nh)) 5 (cpr ((oI (oI (oA u 26 g11) 8 (nI 0)) 4 (nI nh)).2 28) ((oI (oI (oA u 26 g11) 8 (nI 0)) 4 (nI nh)).2 5) nh)).2 29) ((oA (oI (oI (oA u 26 g11) 8 (nI 0)) 4 (nI nh)) 5 (cpr ((oI (oI (oA u 26 g11) 8 (nI 0)) 4 (nI nh)).2 28) ((oI (oI (oA u 26 g11) 8 (nI 0)) 4 (nI nh)).2 5) nh)).2 6) nh)).2 30) ((oA (oA (oI (oI (oA u 26 g11) 8 (nI 0)) 4 (nI nh)) 5 (cpr ((oI (oI (oA u 26 g11) 8 (nI 0)) 4 (nI nh)).2 28) ((oI (oI (oA u 26 g11) 8 (nI 0)) 4 (nI nh)).2 5) nh)) 6 (cpr ((oA (oI (oI (oA u 26 g11) 8 (nI 0)) 4 (nI nh)) 5 (cpr ((oI (oI (oA u 26 g11) 8 (nI 0)) 4 (nI nh)).2 28) ((oI (oI (oA u 26 g11) 8 (nI 0)) 4 (nI nh)).2 5) nh)).2 29) ((oA (oI (oI (oA u 26 g11) 8 (nI 0)) 4 (nI nh)) 5 (cpr ((oI (oI (oA u 26 g11) 8 (nI 0)) 4 (nI nh)).2 28) ((oI (oI (oA u 26 g11) 8 (nI 0)) 4 (nI nh)).2 5) nh)).2 6) nh)).2 7) nh), lt, sj), rfl, ⟨by rw [leaF, if_neg (fun q9 => c4 (h8e.trans (by rw [q9]; rfl)))]; exact RepM_lea (RepM_26 g11 hRM) (show sg.1 8 = 1 by have h8 : ¬ sg.1 8 = 0 := (fun q9 => c4 (h8e.trans (by rw [q9]; rfl))); omega) hnh hIS hnh120, by rw [leaA, if_neg (fun q9 => c4 (h8e.trans (by rw [q9]; rfl)))]; exact congrArg nI (olM hRM hIS (show sg.1 8 = 1 by have h8 : ¬ sg.1 8 = 0 := (fun q9 => c4 (h8e.trans (by rw [q9]; rfl))); omega))⟩, show PP G (mw G h (oA (oA (oA (oI (oI (oA u 26 g11) 8 (nI 0)) 4 (nI nh)) 5 (cpr ((oI (oI (oA u 26 g11) 8 (nI 0)) 4 (nI nh)).2 28) ((oI (oI (oA u 26 g11) 8 (nI 0)) 4 (nI nh)).2 5) nh)) 6 (cpr ((oA (oI (oI (oA u 26 g11) 8 (nI 0)) 4 (nI nh)) 5 (cpr ((oI (oI (oA u 26 g11) 8 (nI 0)) 4 (nI nh)).2 28) ((oI (oI (oA u 26 g11) 8 (nI 0)) 4 (nI nh)).2 5) nh)).2 29) ((oA (oI (oI (oA u 26 g11) 8 (nI 0)) 4 (nI nh)) 5 (cpr ((oI (oI (oA u 26 g11) 8 (nI 0)) 4 (nI nh)).2 28) ((oI (oI (oA u 26 g11) 8 (nI 0)) 4 (nI nh)).2 5) nh)).2 6) nh)) 7 (cpr ((oA (oA (oI (oI (oA u 26 g11) 8 (nI 0)) 4 (nI nh)) 5 (cpr ((oI (oI (oA u 26 g11) 8 (nI 0)) 4 (nI nh)).2 28) ((oI (oI (oA u 26 g11) 8 (nI 0)) 4 (nI nh)).2 5) nh)) 6 (cpr ((oA (oI (oI (oA u 26 g11) 8 (nI 0)) 4 (nI nh)) 5 (cpr ((oI (oI (oA u 26 g11) 8 (nI 0)) 4 (nI nh)).2 28) ((oI (oI (oA u 26 g11) 8 (nI 0)) 4 (nI nh)).2 5) nh)).2 29) ((oA (oI (oI (oA u 26 g11) 8 (nI 0)) 4 (nI nh)) 5 (cpr ((oI (oI (oA u 26 g11) 8 (nI 0)) 4 (nI nh)).2 28) ((oI (oI (oA u 26 g11) 8 (nI 0)) 4 (nI nh)).2 5) nh)).2 6) nh)).2 30) ((oA (oA (oI (oI (oA u 26 g11) 8 (nI 0)) 4 (nI nh)) 5 (cpr ((oI (oI (oA u 26 g11) 8 (nI 0)) 4 (nI nh)).2 28) ((oI (oI (oA u 26 g11) 8 (nI 0)) 4 (nI nh)).2 5) nh)) 6 (cpr ((oA (oI (oI (oA u 26 g11) 8 (nI 0)) 4 (nI nh)) 5 (cpr ((oI (oI (oA u 26 g11) 8 (nI 0)) 4 (nI nh)).2 28) ((oI (oI (oA u 26 g11) 8 (nI 0)) 4 (nI nh)).2 5) nh)).2 29) ((oA (oI (oI (oA u 26 g11) 8 (nI 0)) 4 (nI nh)) 5 (cpr ((oI (oI (oA u 26 g11) 8 (nI 0)) 4 (nI nh)).2 28) ((oI (oI (oA u 26 g11) 8 (nI 0)) 4 (nI nh)).2 5) nh)).2 6) nh)).2 7) nh)) lt sj) t.heap by rw [ht]; exact hP⟩, hS.F ht⟩) hS.2.2 dX5_leave_74
  · skip
    refine lv_ldc (v := (-1000000003 : Int32)) hx hb hown (hts (.constant RX5 225 (-1000000003)) (List.mem_of_getElem? (i := 2) rfl)) dX5_leave_7 ?_
    exact W.iret (v := (-1000000003 : Int32)) hx hb hr (fun t ht hW => ⟨⟨(-1000000003 : Int32), (u, lt, sj), rfl, ⟨by rw [leaF, if_pos (nI_z (by omega) (h8e.symm.trans c4))]; exact hRM, by rw [leaA, if_pos (nI_z (by omega) (h8e.symm.trans c4))]⟩, show PP G (mw G h u lt sj) t.heap by rw [ht]; exact hP⟩, hS.F ht⟩) hS.2.2 dX5_leave_9
set_option maxHeartbeats 1000000 in
set_option maxRecDepth 100000 in
theorem mt_X5_changeByLotsS (l : Launch) (G : gG) (h : Nat → Nat) (sz : Nat) (u : oS) (lt : Int64) (sj : Nat → Int64) (sg : pS) (zz : Nat → Nat → Int64) (x : Nat) (hIS : IS sg) (hRM : RepM u sj sg zz) (ho8 : sg.1 8 = 1) (hlt : lt = lN x) (hxx : x < 2147483647) : Met l yX5_changeByLots wsX5_changeByLots ({ frames := 4, cells := 0, slots := 0, locals := 91 }) (preW G (mw G h u lt sj) sz [.ref (h 0)]) (va_Qi (fun (r : Int32) (v : oS × Int64 × (Nat → Int64)) => ∃ w t, v = (w, lN t.2.1, sj) ∧ t = sLine sg x ∧ RepM w sj t.1 zz ∧ r = (if t.2.2 = true then 1 else 0)) (fun v t => PP G (mw G h v.1 v.2.1 v.2.2) t.heap) (va_A (mw G h u lt sj) sz)) 0 0 (va_A (mw G h u lt sj) sz) := by
  refine Met.ofW (cc := cX5_changeByLots) (maxL := 3) (ret := (some .boolean)) (by decide) rfl ?_
  intro p e s m args below meth c s₁ B hml hv
  obtain ⟨ha, hsz, hP, hK, hN, hD0⟩ := hv
  subst ha
  have hx := B.exec
  have hb := B.bytes
  have hr := B.returns
  have hts := atoms_spec (ws := wsX5_changeByLots) B.pre
  have hown : s.vm.findClass RX5 = some m.cls := findClass_of_methodNamed B.named
  have hlocks := B.notSynchronized
  subst hsz
  have hD := hD0.self (sz := s.heap.size)
  generalize hAe : va_A (mw G h u lt sj) s.heap.size = A at hD ⊢
  have hA : ∀ q : Nat, s.heap.size ≤ q → A q := fun q h => by rw [← hAe]; exact Or.inr h
  clear hAe hD0
  have hS : va_S A s.heap s.heap [] := va_S.rf
  have hiX5 : ∀ w ∈ wsX50, w ∈ wsX5_changeByLots := fun w h9 => List.mem_cons_of_mem _ (List.mem_append_right _ (h9))
  have k91 := hts (.fieldLink RX5 91 "WovenHistoryModel" "versions" "I") (List.mem_of_getElem? (i := 1) rfl)
  have k175 := hts (.fieldLink RX5 175 "WovenHistoryModel" "lines" "I") (List.mem_of_getElem? (i := 2) rfl)
  have hl := lv_entry ([.ref (h 0)]) (n := 3) (Nat.le_of_ble_eq_true rfl)
  rw [lg_entry_eq]
  generalize (lg_sl ([.ref (h 0)]) ++ List.replicate (3 - (lg_sl ([.ref (h 0)])).length) Slot.unset).toArray = ls at hl ⊢
  have hl : lv_has ls 3 [(0, .ref (h 0))] := hl
  have hnv24 := hIS.1
  have hnl120 := hIS.2.1
  have hC := hRM.1
  have hic := hIS.ic
  have hle8 := hIS.2.2.1
  have h8e := hRM.2.1
  subst hlt
  have hpar : parOK (u.2 1) (sg.1 0 + 1) := by have h9 := hC.par hic; rw [ho8] at h9; exact h9
  have hv24 : sg.1 0 < 24 := hIS.2.2.2.1 ho8
  have hol := olM hRM hIS ho8
  refine lv_aload_n hx hb dX5_changeByLots_0 rfl (lv_at hl 0 rfl) ?_
  refine lv_iconst (v := nI 3) hx hb dX5_changeByLots_1 (by decide) ?_
  refine cXi (As := [.int (nI 3)]) (rest := []) (S := oS × Int64 × (Nat → Int64)) (wa := mw G h u (lN x) sj) (w1 := fun v => mw G h v.1 v.2.1 v.2.2) ⟨hx, hb, hml, hown, hts⟩ (mt_X5_lotByF l G h _ u (lN x) sj x 3 (rfl) (hxx) (by first | assumption | omega) (by first | assumption | omega)) (cwV 1 hts gX5_changeByLots_X5_lotBy rfl rfl rfl ⟨rfl, hd_X5_lotBy⟩ ⟨Nat.le_of_ble_eq_true rfl, Nat.le_of_ble_eq_true rfl⟩) hK hN hP hD hS hA (fun _ => rfl) 0 5 rfl rfl rfl hl.1 rfl (Nat.le_of_ble_eq_true rfl) ⟨Nat.zero_le _, Nat.zero_le _⟩ dX5_changeByLots_2 (fun r2 u2 H locs hw2 hP hD hS => ?_)
  obtain ⟨rfl, rfl⟩ := hw2
  have hP : PP G (mw G h u (lN (lot1 x)) sj) H := hP
  have hD : va_D A (mw G h u (lN (lot1 x)) sj) := hD
  have hl2 : lot1 x < 2147483647 := Nat.mod_lt _ (by omega)
  have hm2 : lot1 x % 3 < 3 := Nat.mod_lt _ (by omega)
  refine lv_iconst (v := nI 2) hx hb dX5_changeByLots_5 (by decide) ?_
  refine lv_icmp_ne (tgt := 46) hx hb dX5_changeByLots_6 (by decide) (fun c6 => ?_) (fun c6 => ?_)
  · skip
    have n6 : ¬ ((lot1 x % 3) = 2) := fun q9 => c6 ((nI_eq (a := lot1 x % 3) (b := 2) (by omega) (by omega)).mpr q9)
    refine lv_aload_n hx hb dX5_changeByLots_46 rfl (lv_at hl 0 rfl) ?_
    refine va_get (D := gD G) (ci := 5) (v := .int (u.1 4)) (C := RX5) (T := TX5) (N := 38) hx hb hts hiX5 hown hK hP 0 rfl rfl 4 (by decide) k175 (fun _ h9 => h9) rfl dX5_changeByLots_47 ?_
    refine topE hRM.1.2.1 ?_
    refine lv_bipush (v := nI 120) hx hb dX5_changeByLots_50 (by decide) ?_
    refine lv_icmp_ne (tgt := 57) hx hb dX5_changeByLots_52 (by decide) (fun c52 => ?_) (fun c52 => ?_)
    · skip
      have n52 : ¬ ((sg.1 4) = 120) := fun q9 => c52 ((nI_eq (a := sg.1 4) (b := 120) (by omega) (by omega)).mpr q9)
      refine lv_bipush (v := nI 65) hx hb dX5_changeByLots_57 (by decide) ?_
      refine lv_aload_n hx hb dX5_changeByLots_59 rfl (lv_at hl 0 rfl) ?_
      refine lv_bipush (v := nI 26) hx hb dX5_changeByLots_60 (by decide) ?_
      refine cXi (As := [.int (nI 26)]) (rest := [.int (nI 65)]) (S := oS × Int64 × (Nat → Int64)) (wa := mw G h u (lN (lot1 x)) sj) (w1 := fun v => mw G h v.1 v.2.1 v.2.2) ⟨hx, hb, hml, hown, hts⟩ (mt_X5_lotByF l G h _ u (lN (lot1 x)) sj (lot1 x) 26 (rfl) (lot1_lt _) (by first | assumption | omega) (by first | assumption | omega)) (cwV 1 hts gX5_changeByLots_X5_lotBy rfl rfl rfl ⟨rfl, hd_X5_lotBy⟩ ⟨Nat.le_of_ble_eq_true rfl, Nat.le_of_ble_eq_true rfl⟩) hK hN hP hD hS hA (fun _ => rfl) 0 5 rfl rfl rfl hl.1 rfl (Nat.le_of_ble_eq_true rfl) ⟨Nat.zero_le _, Nat.zero_le _⟩ dX5_changeByLots_62 (fun r62 u62 H locs hw62 hP hD hS => ?_)
      obtain ⟨rfl, rfl⟩ := hw62
      have hP : PP G (mw G h u (lN (lot1 (lot1 x))) sj) H := hP
      have hD : va_D A (mw G h u (lN (lot1 (lot1 x))) sj) := hD
      have hl62 : lot1 (lot1 x) < 2147483647 := Nat.mod_lt _ (by omega)
      have hm62 : lot1 (lot1 x) % 26 < 26 := Nat.mod_lt _ (by omega)
      refine lv_iadd hx hb dX5_changeByLots_65 ?_
      refine topE (y := nI (65 + (lot1 (lot1 x) % 26))) (nI_add 65 (lot1 (lot1 x) % 26)) ?_
      refine lv_istore_n (lv' := [(1, .int (nI (65 + (lot1 (lot1 x) % 26)))), (0, .ref (h 0))]) hx hb dX5_changeByLots_66 rfl hl (by decide) rfl (fun ls hl => ?_)
      refine lv_aload_n hx hb dX5_changeByLots_67 rfl (lv_at hl 1 rfl) ?_
      refine lv_aload_n hx hb dX5_changeByLots_68 rfl (lv_at hl 1 rfl) ?_
      refine lv_aload_n hx hb dX5_changeByLots_69 rfl (lv_at hl 1 rfl) ?_
      have hP := mw_self26 hP
      have hD : va_D A (mw G h (oA u 26 (u.2 26)) (lN (lot1 (lot1 x))) sj) := mw_self26D hD
      refine cXi (As := []) (rest := [.ref (h 0), .ref (h 0)]) (S := oS × Int64 × (Nat → Int64)) (wa := mw G h (oA u 26 (u.2 26)) (lN (lot1 (lot1 x))) sj) (w1 := fun v => mw G h v.1 v.2.1 v.2.2) ⟨hx, hb, hml, hown, hts⟩ (mt_X5_openLines l G h _ u (lN (lot1 (lot1 x))) sj (u.2 26) (sg.1 0) (sg.1 4) (hRM.1.1) (hRM.1.2.1) (by first | assumption | omega) (by first | assumption | omega) (by first | assumption | omega)) (cwV 0 hts gX5_changeByLots_X5_openLines rfl rfl rfl ⟨rfl, hd_X5_openLines⟩ ⟨Nat.le_of_ble_eq_true rfl, Nat.le_of_ble_eq_true rfl⟩) hK hN hP hD hS hA (fun _ => rfl) 0 5 rfl rfl rfl hl.1 rfl (Nat.le_of_ble_eq_true rfl) ⟨Nat.zero_le _, Nat.zero_le _⟩ dX5_changeByLots_70 (fun r70 u70 H locs hw70 hP hD hS => ?_)
      obtain ⟨g70, rfl, rfl⟩ := hw70
      have hP : PP G (mw G h (oA u 26 g70) (lN (lot1 (lot1 x))) sj) H := hP
      have hD : va_D A (mw G h (oA u 26 g70) (lN (lot1 (lot1 x))) sj) := hD
      have hc70 := cnt_le (sdb (u.2 6) (u.2 7) (chV (u.2 1) (u.2 2) (u.2 3) (nI (sg.1 0)))) (sg.1 4)
      refine lv_iconst (v := nI 1) hx hb dX5_changeByLots_73 (by decide) ?_
      refine lv_iadd hx hb dX5_changeByLots_74 ?_
      refine topE (y := nI ((cnt (sdb (u.2 6) (u.2 7) (chV (u.2 1) (u.2 2) (u.2 3) (nI (sg.1 0)))) (sg.1 4)) + 1)) (nI_add (cnt (sdb (u.2 6) (u.2 7) (chV (u.2 1) (u.2 2) (u.2 3) (nI (sg.1 0)))) (sg.1 4)) 1) ?_
      refine cXi (As := [.int (nI ((cnt (sdb (u.2 6) (u.2 7) (chV (u.2 1) (u.2 2) (u.2 3) (nI (sg.1 0)))) (sg.1 4)) + 1))]) (rest := [.ref (h 0)]) (S := oS × Int64 × (Nat → Int64)) (wa := mw G h (oA u 26 g70) (lN (lot1 (lot1 x))) sj) (w1 := fun v => mw G h v.1 v.2.1 v.2.2) ⟨hx, hb, hml, hown, hts⟩ (mt_X5_lotByF l G h _ (oA u 26 g70) (lN (lot1 (lot1 x))) sj (lot1 (lot1 x)) ((cnt (sdb (u.2 6) (u.2 7) (chV (u.2 1) (u.2 2) (u.2 3) (nI (sg.1 0)))) (sg.1 4)) + 1) (rfl) (lot1_lt _) (by first | assumption | omega) (by first | assumption | omega)) (cwV 1 hts gX5_changeByLots_X5_lotBy rfl rfl rfl ⟨rfl, hd_X5_lotBy⟩ ⟨Nat.le_of_ble_eq_true rfl, Nat.le_of_ble_eq_true rfl⟩) hK hN hP hD hS hA (fun _ => rfl) 0 5 rfl rfl rfl hl.1 rfl (Nat.le_of_ble_eq_true rfl) ⟨Nat.zero_le _, Nat.zero_le _⟩ dX5_changeByLots_75 (fun r75 u75 H locs hw75 hP hD hS => ?_)
      obtain ⟨rfl, rfl⟩ := hw75
      have hP : PP G (mw G h (oA u 26 g70) (lN (lot1 (lot1 (lot1 x)))) sj) H := hP
      have hD : va_D A (mw G h (oA u 26 g70) (lN (lot1 (lot1 (lot1 x)))) sj) := hD
      have hl75 : lot1 (lot1 (lot1 x)) < 2147483647 := Nat.mod_lt _ (by omega)
      have hm75 : lot1 (lot1 (lot1 x)) % ((cnt (sdb (u.2 6) (u.2 7) (chV (u.2 1) (u.2 2) (u.2 3) (nI (sg.1 0)))) (sg.1 4)) + 1) < ((cnt (sdb (u.2 6) (u.2 7) (chV (u.2 1) (u.2 2) (u.2 3) (nI (sg.1 0)))) (sg.1 4)) + 1) := Nat.mod_lt _ (by omega)
      refine lv_iload_n hx hb dX5_changeByLots_78 rfl (lv_at hl 0 rfl) ?_
      refine cXi (As := [.int (nI (lot1 (lot1 (lot1 x)) % ((cnt (sdb (u.2 6) (u.2 7) (chV (u.2 1) (u.2 2) (u.2 3) (nI (sg.1 0)))) (sg.1 4)) + 1))), .int (nI (65 + (lot1 (lot1 x) % 26)))]) (rest := []) (S := oS × Int64 × (Nat → Int64)) (wa := mw G h (oA u 26 g70) (lN (lot1 (lot1 (lot1 x)))) sj) (w1 := fun v => mw G h v.1 v.2.1 v.2.2) ⟨hx, hb, hml, hown, hts⟩ (mt_X5_putNowF l G h _ (oA u 26 g70) (lN (lot1 (lot1 (lot1 x)))) sj (sg.1 0) (sg.1 4) (lot1 (lot1 (lot1 x)) % ((cnt (sdb (u.2 6) (u.2 7) (chV (u.2 1) (u.2 2) (u.2 3) (nI (sg.1 0)))) (sg.1 4)) + 1)) (nI (65 + (lot1 (lot1 x) % 26))) (hRM.1.1) (hRM.1.2.1) (by first | assumption | omega) (by first | assumption | omega) (by first | assumption | omega) (by first | assumption | omega)) (cwV 2 hts gX5_changeByLots_X5_putNow rfl rfl rfl ⟨rfl, hd_X5_putNow⟩ ⟨Nat.le_of_ble_eq_true rfl, Nat.le_of_ble_eq_true rfl⟩) hK hN hP hD hS hA (fun _ => rfl) 0 5 rfl rfl rfl hl.1 rfl (Nat.le_of_ble_eq_true rfl) ⟨Nat.zero_le _, Nat.zero_le _⟩ dX5_changeByLots_79 (fun r79 u79 H locs hw79 hP hD hS => ?_)
      obtain ⟨g79, f579, f679, f779, rfl, h579, h679, h779, rfl⟩ := hw79
      have hP : PP G (mw G h (oI (ln3 (oA (oA u 26 g70) 26 g79) f579 f679 f779) 4 (nI ((sg.1 4) + 1))) (lN (lot1 (lot1 (lot1 x)))) sj) H := hP
      have hD : va_D A (mw G h (oI (ln3 (oA (oA u 26 g70) 26 g79) f579 f679 f779) 4 (nI ((sg.1 4) + 1))) (lN (lot1 (lot1 (lot1 x)))) sj) := hD
      refine lv_istore_n (lv' := [(2, .int (nI (posP (sdb ((oA u 26 g70).2 6) ((oA u 26 g70).2 7) (chV ((oA u 26 g70).2 1) ((oA u 26 g70).2 2) ((oA u 26 g70).2 3) (nI (sg.1 0)))) (sg.1 4) (lot1 (lot1 (lot1 x)) % ((cnt (sdb (u.2 6) (u.2 7) (chV (u.2 1) (u.2 2) (u.2 3) (nI (sg.1 0)))) (sg.1 4)) + 1))))), (1, .int (nI (65 + (lot1 (lot1 x) % 26)))), (0, .ref (h 0))]) hx hb dX5_changeByLots_82 rfl hl (by decide) rfl (fun ls hl => ?_)
      refine lv_iconst (v := nI 1) hx hb dX5_changeByLots_83 (by decide) ?_
      exact W.zret (v := nI 1) hx hb hr (by decide) (fun t ht hW => ⟨⟨nI 1, (oI (ln3 (oA (oA u 26 g70) 26 g79) f579 f679 f779) 4 (nI ((sg.1 4) + 1)), lN (lot1 (lot1 (lot1 x))), sj), rfl, ⟨_, (sPut sg (lot1 (lot1 (lot1 x)) % (cnt (sdb (u.2 6) (u.2 7) (chV (u.2 1) (u.2 2) (u.2 3) (nI (sg.1 0)))) (sg.1 4) + 1)) (nI (65 + lot1 (lot1 x) % 26)), lot1 (lot1 (lot1 x)), true), rfl, (by rw [sLine, if_neg n6, if_neg n52, ← hol]), RepM_put (RepM_26 _ hRM) hIS ho8 h579 h679 h779, rfl⟩, show PP G (mw G h (oI (ln3 (oA (oA u 26 g70) 26 g79) f579 f679 f779) 4 (nI ((sg.1 4) + 1))) (lN (lot1 (lot1 (lot1 x)))) sj) t.heap by rw [ht]; exact hP⟩, hS.F ht⟩) hS.2.2 dX5_changeByLots_84
    · skip
      have n52 : (sg.1 4) = 120 := (nI_eq (a := sg.1 4) (b := 120) (by omega) (by omega)).mp c52
      refine lv_iconst (v := nI 0) hx hb dX5_changeByLots_55 (by decide) ?_
      exact W.zret (v := nI 0) hx hb hr (by decide) (fun t ht hW => ⟨⟨nI 0, (u, lN (lot1 x), sj), rfl, ⟨_, (sg, lot1 x, false), rfl, (by rw [sLine, if_neg n6, if_pos n52]), hRM, rfl⟩, show PP G (mw G h u (lN (lot1 x)) sj) t.heap by rw [ht]; exact hP⟩, hS.F ht⟩) hS.2.2 dX5_changeByLots_56
  · skip
    have n6 : (lot1 x % 3) = 2 := (nI_eq (a := lot1 x % 3) (b := 2) (by omega) (by omega)).mp c6
    refine lv_aload_n hx hb dX5_changeByLots_9 rfl (lv_at hl 0 rfl) ?_
    have hP := mw_self26 hP
    have hD : va_D A (mw G h (oA u 26 (u.2 26)) (lN (lot1 x)) sj) := mw_self26D hD
    refine cXi (As := []) (rest := []) (S := oS × Int64 × (Nat → Int64)) (wa := mw G h (oA u 26 (u.2 26)) (lN (lot1 x)) sj) (w1 := fun v => mw G h v.1 v.2.1 v.2.2) ⟨hx, hb, hml, hown, hts⟩ (mt_X5_openLines l G h _ u (lN (lot1 x)) sj (u.2 26) (sg.1 0) (sg.1 4) (hRM.1.1) (hRM.1.2.1) (by first | assumption | omega) (by first | assumption | omega) (by first | assumption | omega)) (cwV 0 hts gX5_changeByLots_X5_openLines rfl rfl rfl ⟨rfl, hd_X5_openLines⟩ ⟨Nat.le_of_ble_eq_true rfl, Nat.le_of_ble_eq_true rfl⟩) hK hN hP hD hS hA (fun _ => rfl) 0 5 rfl rfl rfl hl.1 rfl (Nat.le_of_ble_eq_true rfl) ⟨Nat.zero_le _, Nat.zero_le _⟩ dX5_changeByLots_10 (fun r10 u10 H locs hw10 hP hD hS => ?_)
    obtain ⟨g10, rfl, rfl⟩ := hw10
    have hP : PP G (mw G h (oA u 26 g10) (lN (lot1 x)) sj) H := hP
    have hD : va_D A (mw G h (oA u 26 g10) (lN (lot1 x)) sj) := hD
    have hc10 := cnt_le (sdb (u.2 6) (u.2 7) (chV (u.2 1) (u.2 2) (u.2 3) (nI (sg.1 0)))) (sg.1 4)
    refine lv_istore_n (lv' := [(1, .int (nI (cnt (sdb (u.2 6) (u.2 7) (chV (u.2 1) (u.2 2) (u.2 3) (nI (sg.1 0)))) (sg.1 4)))), (0, .ref (h 0))]) hx hb dX5_changeByLots_13 rfl hl (by decide) rfl (fun ls hl => ?_)
    refine lv_iload_n hx hb dX5_changeByLots_14 rfl (lv_at hl 0 rfl) ?_
    refine lv_if_le (tgt := 42) hx hb dX5_changeByLots_15 (by decide) (fun c15 => ?_) (fun c15 => ?_)
    · skip
      have n15 : (cnt (sdb (u.2 6) (u.2 7) (chV (u.2 1) (u.2 2) (u.2 3) (nI (sg.1 0)))) (sg.1 4)) ≤ 0 := (nI_leI (a := cnt (sdb (u.2 6) (u.2 7) (chV (u.2 1) (u.2 2) (u.2 3) (nI (sg.1 0)))) (sg.1 4)) (b := 0) (by omega) (by omega)).mp c15
      refine lv_iconst (v := nI 0) hx hb dX5_changeByLots_42 (by decide) ?_
      refine lv_istore_n (lv' := [(2, .int (nI 0)), (1, .int (nI (cnt (sdb (u.2 6) (u.2 7) (chV (u.2 1) (u.2 2) (u.2 3) (nI (sg.1 0)))) (sg.1 4)))), (0, .ref (h 0))]) hx hb dX5_changeByLots_43 rfl hl (by decide) rfl (fun ls hl => ?_)
      refine lv_iconst (v := nI 1) hx hb dX5_changeByLots_44 (by decide) ?_
      exact W.zret (v := nI 1) hx hb hr (by decide) (fun t ht hW => ⟨⟨nI 1, (oA u 26 g10, lN (lot1 x), sj), rfl, ⟨_, (sg, lot1 x, true), rfl, (by rw [sLine, if_pos n6, if_neg (show ¬ 0 < olS sg by omega)]), RepM_26 _ hRM, rfl⟩, show PP G (mw G h (oA u 26 g10) (lN (lot1 x)) sj) t.heap by rw [ht]; exact hP⟩, hS.F ht⟩) hS.2.2 dX5_changeByLots_45
    · skip
      have n15 : ¬ ((cnt (sdb (u.2 6) (u.2 7) (chV (u.2 1) (u.2 2) (u.2 3) (nI (sg.1 0)))) (sg.1 4)) ≤ 0) := fun q9 => c15 ((nI_leI (a := cnt (sdb (u.2 6) (u.2 7) (chV (u.2 1) (u.2 2) (u.2 3) (nI (sg.1 0)))) (sg.1 4)) (b := 0) (by omega) (by omega)).mpr q9)
      refine lv_aload_n hx hb dX5_changeByLots_18 rfl (lv_at hl 1 rfl) ?_
      refine lv_aload_n hx hb dX5_changeByLots_19 rfl (lv_at hl 1 rfl) ?_
      refine lv_aload_n hx hb dX5_changeByLots_20 rfl (lv_at hl 1 rfl) ?_
      refine lv_aload_n hx hb dX5_changeByLots_21 rfl (lv_at hl 1 rfl) ?_
      refine va_get (D := gD G) (ci := 5) (v := .int (u.1 0)) (C := RX5) (T := TX5) (N := 38) hx hb hts hiX5 hown hK hP 0 rfl rfl 0 (by decide) k91 (fun _ h9 => h9) rfl dX5_changeByLots_22 ?_
      refine topE hRM.1.1 ?_
      refine cXi (As := [.int (nI (sg.1 0))]) (rest := [.ref (h 0), .ref (h 0)]) (S := oS × Int64 × (Nat → Int64)) (wa := mw G h (oA u 26 g10) (lN (lot1 x)) sj) (w1 := fun v => mw G h v.1 v.2.1 v.2.2) ⟨hx, hb, hml, hown, hts⟩ (mt_X5_changesOf l G h _ u (lN (lot1 x)) sj g10 (sg.1 0) (by first | assumption | omega) (by first | assumption | omega)) (cwV 1 hts gX5_changeByLots_X5_changesOf rfl rfl rfl ⟨rfl, hd_X5_changesOf⟩ ⟨Nat.le_of_ble_eq_true rfl, Nat.le_of_ble_eq_true rfl⟩) hK hN hP hD hS hA (fun _ => rfl) 0 5 rfl rfl rfl hl.1 rfl (Nat.le_of_ble_eq_true rfl) ⟨Nat.zero_le _, Nat.zero_le _⟩ dX5_changeByLots_25 (fun r25 u25 H locs hw25 hP hD hS => ?_)
      obtain ⟨g25, rfl, rfl⟩ := hw25
      have hP : PP G (mw G h (oA u 26 g25) (lN (lot1 x)) sj) H := hP
      have hD : va_D A (mw G h (oA u 26 g25) (lN (lot1 x)) sj) := hD
      refine lv_aload_n hx hb dX5_changeByLots_28 rfl (lv_at hl 1 rfl) ?_
      refine lv_iload_n hx hb dX5_changeByLots_29 rfl (lv_at hl 0 rfl) ?_
      refine cXi (As := [.int (nI (cnt (sdb (u.2 6) (u.2 7) (chV (u.2 1) (u.2 2) (u.2 3) (nI (sg.1 0)))) (sg.1 4)))]) (rest := [.int (chV (u.2 1) (u.2 2) (u.2 3) (nI (sg.1 0))), .ref (h 0), .ref (h 0)]) (S := oS × Int64 × (Nat → Int64)) (wa := mw G h (oA u 26 g25) (lN (lot1 x)) sj) (w1 := fun v => mw G h v.1 v.2.1 v.2.2) ⟨hx, hb, hml, hown, hts⟩ (mt_X5_lotByF l G h _ (oA u 26 g25) (lN (lot1 x)) sj (lot1 x) (cnt (sdb (u.2 6) (u.2 7) (chV (u.2 1) (u.2 2) (u.2 3) (nI (sg.1 0)))) (sg.1 4)) (rfl) (lot1_lt _) (by first | assumption | omega) (by first | assumption | omega)) (cwV 1 hts gX5_changeByLots_X5_lotBy rfl rfl rfl ⟨rfl, hd_X5_lotBy⟩ ⟨Nat.le_of_ble_eq_true rfl, Nat.le_of_ble_eq_true rfl⟩) hK hN hP hD hS hA (fun _ => rfl) 0 5 rfl rfl rfl hl.1 rfl (Nat.le_of_ble_eq_true rfl) ⟨Nat.zero_le _, Nat.zero_le _⟩ dX5_changeByLots_30 (fun r30 u30 H locs hw30 hP hD hS => ?_)
      obtain ⟨rfl, rfl⟩ := hw30
      have hP : PP G (mw G h (oA u 26 g25) (lN (lot1 (lot1 x))) sj) H := hP
      have hD : va_D A (mw G h (oA u 26 g25) (lN (lot1 (lot1 x))) sj) := hD
      have hl30 : lot1 (lot1 x) < 2147483647 := Nat.mod_lt _ (by omega)
      have hm30 : lot1 (lot1 x) % (cnt (sdb (u.2 6) (u.2 7) (chV (u.2 1) (u.2 2) (u.2 3) (nI (sg.1 0)))) (sg.1 4)) < (cnt (sdb (u.2 6) (u.2 7) (chV (u.2 1) (u.2 2) (u.2 3) (nI (sg.1 0)))) (sg.1 4)) := Nat.mod_lt _ (by omega)
      refine cRi (w := mw G h (oA u 26 g25) (lN (lot1 (lot1 x))) sj) (As := [.int (chV (u.2 1) (u.2 2) (u.2 3) (nI (sg.1 0))), .int (nI (lot1 (lot1 x) % (cnt (sdb (u.2 6) (u.2 7) (chV (u.2 1) (u.2 2) (u.2 3) (nI (sg.1 0)))) (sg.1 4))))]) (rest := [.ref (h 0)]) ⟨hx, hb, hml, hown, hts⟩ (mt_X5_lineAt l G h (oA u 26 g25) (lN (lot1 (lot1 x))) sj (sg.1 4) (chV (u.2 1) (u.2 2) (u.2 3) (nI (sg.1 0))) (lot1 (lot1 x) % (cnt (sdb (u.2 6) (u.2 7) (chV (u.2 1) (u.2 2) (u.2 3) (nI (sg.1 0)))) (sg.1 4))) (hRM.1.2.1) (by first | assumption | omega) (by omega)) (cwV 2 hts gX5_changeByLots_X5_lineAt rfl rfl rfl ⟨rfl, hd_X5_lineAt⟩ ⟨Nat.le_of_ble_eq_true rfl, Nat.le_of_ble_eq_true rfl⟩) hK hN hP 0 5 rfl rfl rfl hl.1 rfl (Nat.le_of_ble_eq_true rfl) ⟨Nat.zero_le _, Nat.zero_le _⟩ dX5_changeByLots_33 (fun r33 hw33 => ?_)
      rcases hw33 with ⟨i33, hi33, hp33, hq33, rfl⟩ | ⟨hq33, rfl⟩
      · skip
        obtain ⟨e33, o33⟩ := fndM (RepM_26 _ hRM) hIS ho8 hi33 hp33 hq33
        rw [hol] at e33
        refine cXi (As := [.int (nI i33)]) (rest := []) (S := oS × Int64 × (Nat → Int64)) (wa := mw G h (oA u 26 g25) (lN (lot1 (lot1 x))) sj) (w1 := fun v => mw G h v.1 v.2.1 v.2.2) ⟨hx, hb, hml, hown, hts⟩ (mt_X5_takeNowF l G h _ (oA u 26 g25) (lN (lot1 (lot1 x))) sj (sg.1 0) (sg.1 4) i33 (hRM.1.1) (hRM.1.2.1) (by first | assumption | omega) (by first | assumption | omega) (by first | assumption | omega)) (cwV 1 hts gX5_changeByLots_X5_takeNow rfl rfl rfl ⟨rfl, hd_X5_takeNow⟩ ⟨Nat.le_of_ble_eq_true rfl, Nat.le_of_ble_eq_true rfl⟩) hK hN hP hD hS hA (fun _ => rfl) 0 5 rfl rfl rfl hl.1 rfl (Nat.le_of_ble_eq_true rfl) ⟨Nat.zero_le _, Nat.zero_le _⟩ dX5_changeByLots_36 (fun r36 u36 H locs hw36 hP hD hS => ?_)
        rcases hw36 with ⟨hb36, rfl, rfl⟩ | ⟨hb36, f536, f636, f736, rfl, h536, h636, h736, rfl⟩
        · skip
          have hP : PP G (mw G h (oA (oA u 26 g25) 7 (upd ((oA u 26 g25).2 7) i33 ((oA u 26 g25).2 7 i33 ||| b1 (sg.1 0)))) (lN (lot1 (lot1 x))) sj) H := hP
          have hD : va_D A (mw G h (oA (oA u 26 g25) 7 (upd ((oA u 26 g25).2 7) i33 ((oA u 26 g25).2 7 i33 ||| b1 (sg.1 0)))) (lN (lot1 (lot1 x))) sj) := hD
          refine lv_goto (tgt := 43) hx hb dX5_changeByLots_39 (by decide) ?_
          refine lv_istore_n (lv' := [(2, .int ((oA u 26 g25).2 5 i33)), (1, .int (nI (cnt (sdb (u.2 6) (u.2 7) (chV (u.2 1) (u.2 2) (u.2 3) (nI (sg.1 0)))) (sg.1 4)))), (0, .ref (h 0))]) hx hb dX5_changeByLots_43 rfl hl (by decide) rfl (fun ls hl => ?_)
          refine lv_iconst (v := nI 1) hx hb dX5_changeByLots_44 (by decide) ?_
          exact W.zret (v := nI 1) hx hb hr (by decide) (fun t ht hW => ⟨⟨nI 1, (oA (oA u 26 g25) 7 (upd ((oA u 26 g25).2 7) i33 ((oA u 26 g25).2 7 i33 ||| b1 (sg.1 0))), lN (lot1 (lot1 x)), sj), rfl, ⟨_, (sTake sg i33, lot1 (lot1 x), true), rfl, (by rw [sLine, if_pos n6, if_pos (show 0 < olS sg by omega), e33]), RepM_tk (RepM_26 _ hRM) hi33 hb36, rfl⟩, show PP G (mw G h (oA (oA u 26 g25) 7 (upd ((oA u 26 g25).2 7) i33 ((oA u 26 g25).2 7 i33 ||| b1 (sg.1 0)))) (lN (lot1 (lot1 x))) sj) t.heap by rw [ht]; exact hP⟩, hS.F ht⟩) hS.2.2 dX5_changeByLots_45
        · skip
          have hP : PP G (mw G h (oI (ln3 (oA u 26 g25) f536 f636 f736) 4 (nI ((sg.1 4) - 1))) (lN (lot1 (lot1 x))) sj) H := hP
          have hD : va_D A (mw G h (oI (ln3 (oA u 26 g25) f536 f636 f736) 4 (nI ((sg.1 4) - 1))) (lN (lot1 (lot1 x))) sj) := hD
          refine lv_goto (tgt := 43) hx hb dX5_changeByLots_39 (by decide) ?_
          refine lv_istore_n (lv' := [(2, .int ((oA u 26 g25).2 5 i33)), (1, .int (nI (cnt (sdb (u.2 6) (u.2 7) (chV (u.2 1) (u.2 2) (u.2 3) (nI (sg.1 0)))) (sg.1 4)))), (0, .ref (h 0))]) hx hb dX5_changeByLots_43 rfl hl (by decide) rfl (fun ls hl => ?_)
          refine lv_iconst (v := nI 1) hx hb dX5_changeByLots_44 (by decide) ?_
          exact W.zret (v := nI 1) hx hb hr (by decide) (fun t ht hW => ⟨⟨nI 1, (oI (ln3 (oA u 26 g25) f536 f636 f736) 4 (nI ((sg.1 4) - 1)), lN (lot1 (lot1 x)), sj), rfl, ⟨_, (sTake sg i33, lot1 (lot1 x), true), rfl, (by rw [sLine, if_pos n6, if_pos (show 0 < olS sg by omega), e33]), RepM_del (RepM_26 _ hRM) hi33 hb36 h536 h636 h736, rfl⟩, show PP G (mw G h (oI (ln3 (oA u 26 g25) f536 f636 f736) 4 (nI ((sg.1 4) - 1))) (lN (lot1 (lot1 x))) sj) t.heap by rw [ht]; exact hP⟩, hS.F ht⟩) hS.2.2 dX5_changeByLots_45
      · skip
        exact absurd hm30 (Nat.not_lt.mpr hq33)
set_option maxHeartbeats 1000000 in
set_option maxRecDepth 100000 in
theorem mt_X5_driftS (l : Launch) (G : gG) (h : Nat → Nat) (sz : Nat) (u : oS) (lt : Int64) (sj : Nat → Int64) (sg : pS) (zz : Nat → Nat → Int64) (a : Int32) (b : Int32) (nh : Nat) (hI : MIx u (sg.1 0) (sg.1 4) (sg.1 10) nh) (hIS : IS sg) (hRM : RepM u sj sg zz) : Met l yX5_drift wsX5_drift ({ frames := 5, cells := 0, slots := 0, locals := 113 }) (preW G (mw G h u lt sj) sz [.ref (h 0), .int a, .int b]) (va_Qi (fun (r : Int32) (v : oS × Int64 × (Nat → Int64)) => RepM v.1 v.2.2 (driF sg a b) zz ∧ r = driA sg a b) (fun v t => PP G (mw G h v.1 v.2.1 v.2.2) t.heap) (va_A (mw G h u lt sj) sz)) 0 0 (va_A (mw G h u lt sj) sz) := by
  refine Met.ofW (cc := cX5_drift) (maxL := 6) (ret := (some .int)) (by decide) rfl ?_
  intro p e s m args below meth c s₁ B hml hv
  obtain ⟨ha, hsz, hP, hK, hN, hD0⟩ := hv
  subst ha
  have hx := B.exec
  have hb := B.bytes
  have hr := B.returns
  have hts := atoms_spec (ws := wsX5_drift) B.pre
  have hown : s.vm.findClass RX5 = some m.cls := findClass_of_methodNamed B.named
  have hlocks := B.notSynchronized
  subst hsz
  have hD := hD0.self (sz := s.heap.size)
  generalize hAe : va_A (mw G h u lt sj) s.heap.size = A at hD ⊢
  have hA : ∀ q : Nat, s.heap.size ≤ q → A q := fun q h => by rw [← hAe]; exact Or.inr h
  clear hAe hD0
  have hS : va_S A s.heap s.heap [] := va_S.rf
  have hiX5 : ∀ w ∈ wsX50, w ∈ wsX5_drift := fun w h9 => List.mem_cons_of_mem _ (List.mem_append_right _ (h9))
  have k178 := hts (.fieldLink RX5 178 "WovenHistoryModel" "isOpen" "Z") (List.mem_of_getElem? (i := 4) rfl)
  have k91 := hts (.fieldLink RX5 91 "WovenHistoryModel" "versions" "I") (List.mem_of_getElem? (i := 5) rfl)
  have k248 := hts (.fieldLink RX5 248 "WovenHistoryModel" "lot" "J") (List.mem_of_getElem? (i := 7) rfl)
  have hl := lv_entry ([.ref (h 0), .int a, .int b]) (n := 6) (Nat.le_of_ble_eq_true rfl)
  rw [lg_entry_eq]
  generalize (lg_sl ([.ref (h 0), .int a, .int b]) ++ List.replicate (6 - (lg_sl ([.ref (h 0), .int a, .int b])).length) Slot.unset).toArray = ls at hl ⊢
  have hl : lv_has ls 6 [(0, .ref (h 0)), (1, .int a), (2, .int b)] := hl
  have hC := hRM.1
  have hic := hIS.ic
  have hle8 := hIS.2.2.1
  have h8e := hRM.2.1
  have hI0 := hI
  obtain ⟨hnv, hnl, hnt, hnh, hnv24, hnl120, hnt240, hnh120, hop, hopn, hparV, hsz4, himg⟩ := hI
  refine lv_iload_n hx hb dX5_drift_0 rfl (lv_at hl 1 rfl) ?_
  refine lv_i2l (v := a.toInt64) hx hb dX5_drift_1 rfl ?_
  refine lv_lconst (v := 1) hx hb dX5_drift_2 (by decide) ?_
  refine lv_ldc2 (v := 24) hx hb hown (hts (.constantLong RX5 259 (24)) (List.mem_of_getElem? (i := 1) rfl)) dX5_drift_3 ?_
  refine cSi (As := [.long a.toInt64, .long 1, .long 24]) (rest := []) ⟨hx, hb, hml, hown, hts⟩ (mt_X5_in l a.toInt64 1 24) (va_cwS 3 hts gX5_drift_X5_in rfl rfl rfl hd_X5_in ⟨Nat.le_of_ble_eq_true rfl, Nat.le_of_ble_eq_true rfl⟩) rfl hl.1 rfl (Nat.le_of_ble_eq_true rfl) ⟨Nat.zero_le _, Nat.zero_le _⟩ dX5_drift_6 (fun r6 hw6 => ?_)
  rcases hw6 with ⟨rfl, ha6, hb6⟩ | ⟨rfl, hn6⟩
  · skip
    obtain ⟨a1, ha1, ha2, rfl⟩ := rng_y (a := 1) (b := 24) (by decide) (by decide) (by omega) ha6 hb6
    refine lv_if_eq (tgt := 24) hx hb dX5_drift_9 (by decide) (fun c9 => absurd c9 (by decide)) (fun _ => ?_)
    refine lv_iload_n hx hb dX5_drift_12 rfl (lv_at hl 2 rfl) ?_
    refine lv_i2l (v := b.toInt64) hx hb dX5_drift_13 rfl ?_
    refine lv_lconst (v := 1) hx hb dX5_drift_14 (by decide) ?_
    refine lv_ldc2 (v := 999999) hx hb hown (hts (.constantLong RX5 261 (999999)) (List.mem_of_getElem? (i := 2) rfl)) dX5_drift_15 ?_
    refine cSi (As := [.long b.toInt64, .long 1, .long 999999]) (rest := []) ⟨hx, hb, hml, hown, hts⟩ (mt_X5_in l b.toInt64 1 999999) (va_cwS 3 hts gX5_drift_X5_in rfl rfl rfl hd_X5_in ⟨Nat.le_of_ble_eq_true rfl, Nat.le_of_ble_eq_true rfl⟩) rfl hl.1 rfl (Nat.le_of_ble_eq_true rfl) ⟨Nat.zero_le _, Nat.zero_le _⟩ dX5_drift_18 (fun r18 hw18 => ?_)
    rcases hw18 with ⟨rfl, ha18, hb18⟩ | ⟨rfl, hn18⟩
    · skip
      obtain ⟨bs, hb1, hb2, rfl⟩ := rng_y (a := 1) (b := 999999) (by decide) (by decide) (by omega) ha18 hb18
      refine lv_if_ne (tgt := 27) hx hb dX5_drift_21 (by decide) (fun _ => ?_) (fun c9 => absurd c9 (by decide))
      refine lv_aload_n hx hb dX5_drift_27 rfl (lv_at hl 0 rfl) ?_
      refine va_get (D := gD G) (ci := 5) (v := .int (u.1 8)) (C := RX5) (T := TX5) (N := 38) hx hb hts hiX5 hown hK hP 0 rfl rfl 8 (by decide) k178 (fun _ h9 => h9) rfl dX5_drift_28 ?_
      refine lv_if_ne (tgt := 41) hx hb dX5_drift_31 (by decide) (fun c31 => ?_) (fun c31 => ?_)
      · skip
        refine lv_ldc (v := (-1000000003 : Int32)) hx hb hown (hts (.constant RX5 225 (-1000000003)) (List.mem_of_getElem? (i := 6) rfl)) dX5_drift_41 ?_
        exact W.iret (v := (-1000000003 : Int32)) hx hb hr (fun t ht hW => ⟨⟨(-1000000003 : Int32), (u, lt, sj), rfl, ⟨by rw [driF, if_neg (not_not_intro ⟨inR_t (by omega) (by omega), nI_p0 (by omega) (by omega), inR_t' (by omega) (by omega), nI_p0 (by omega) (by omega)⟩), if_pos (by first | exact Or.inr n38 | exact Or.inl (fun q9 => c31 (h8e.trans (by rw [q9]; rfl))))]; exact hRM, by rw [driA, if_neg (not_not_intro ⟨inR_t (by omega) (by omega), nI_p0 (by omega) (by omega), inR_t' (by omega) (by omega), nI_p0 (by omega) (by omega)⟩), if_pos (by first | exact Or.inr n38 | exact Or.inl (fun q9 => c31 (h8e.trans (by rw [q9]; rfl))))]⟩, show PP G (mw G h u lt sj) t.heap by rw [ht]; exact hP⟩, hS.F ht⟩) hS.2.2 dX5_drift_43
      · skip
        refine lv_aload_n hx hb dX5_drift_34 rfl (lv_at hl 0 rfl) ?_
        refine va_get (D := gD G) (ci := 5) (v := .int (u.1 0)) (C := RX5) (T := TX5) (N := 38) hx hb hts hiX5 hown hK hP 0 rfl rfl 0 (by decide) k91 (fun _ h9 => h9) rfl dX5_drift_35 ?_
        refine topE hnv ?_
        refine lv_if_ne (tgt := 44) hx hb dX5_drift_38 (by decide) (fun c38 => ?_) (fun c38 => ?_)
        · skip
          have n38 : ¬ ((sg.1 0) = 0) := fun q9 => c38 ((nI_eq (a := sg.1 0) (b := 0) (by omega) (by omega)).mpr q9)
          refine lv_aload_n hx hb dX5_drift_44 rfl (lv_at hl 0 rfl) ?_
          refine lv_iload_n hx hb dX5_drift_45 rfl (lv_at hl 2 rfl) ?_
          refine lv_i2l (v := lN bs) hx hb dX5_drift_46 (nI_l (by omega)) ?_
          refine va_put (D := gD G) (ci := 5) (v := .long (lN bs)) (ty := .long) (C := RX5) (T := TX5) (N := 38) hx hb hts hiX5 tyX5 tyX5_ok nmX5 hown hK hP hD hS 0 rfl rfl 31 (by decide) k248 (fun _ h9 => h9) rfl (tyX5_ok 31 (by decide)) (rfl) (rfl) (Nat.le_of_ble_eq_true rfl) dX5_drift_47 (fun H locs hP hD hS => ?_)
          have hP : PP G (mw G h u (lN bs) sj) H := hP
          have hD : va_D A (mw G h u (lN bs) sj) := hD
          refine lv_iconst (v := nI 1) hx hb dX5_drift_50 (by decide) ?_
          refine lv_istore_n (lv' := [(3, .int (nI 1)), (0, .ref (h 0)), (1, .int (nI a1)), (2, .int (nI bs))]) hx hb dX5_drift_51 rfl hl (by decide) rfl (fun ls hl => ?_)
          refine lv_iconst (v := nI 0) hx hb dX5_drift_52 (by decide) ?_
          refine lv_istore (lv' := [(4, .int (nI 0)), (3, .int (nI 1)), (0, .ref (h 0)), (1, .int (nI a1)), (2, .int (nI bs))]) hx hb dX5_drift_53 hl (by decide) rfl (fun ls hl => ?_)
          have LP55 : ∀ (n55m : Nat), ∀ (k : Nat) (gg : Int32) (uu : oS) (tt : pS) (y : Nat) (bb : Bool) (hI5 : IS tt) (hR5 : RepM uu sj tt zz) (ho5 : tt.1 8 = 0) (hv0 : 0 < tt.1 0) (hyy : y < 2147483647) (hgg : gg = (if bb = true then 1 else 0)) (hk : k ≤ a1) (hs5 : sVers (a1 - k) (tt, y, bb) = sVers a1 (sg, bs, true)) (hv25 : tt.1 0 ≤ 24), (a1 - k < n55m) → ∀ (H : Heap) (locs : List Loc) (ls : Array Slot), PP G (mw G h uu (lN y) sj) H → va_D A (mw G h uu (lN y) sj) → va_S A s.heap H locs → lv_has ls 6 [(0, .ref (h 0)), (1, .int (nI a1)), (3, .int gg), (4, .int (nI k))] → W p l e (headSpec wsX5_drift ({ frames := 5, cells := 0, slots := 0, locals := 113 })).room s m ([.ref (h 0), .int (nI a1), .int (nI bs)] : List Value).toArray below meth c H locs 0 0 (MQ below (va_Qi (fun (r : Int32) (v : oS × Int64 × (Nat → Int64)) => RepM v.1 v.2.2 (driF sg (nI a1) (nI bs)) zz ∧ r = driA sg (nI a1) (nI bs)) (fun v t => PP G (mw G h v.1 v.2.1 v.2.2) t.heap) A) ([.ref (h 0), .int (nI a1), .int (nI bs)] : List Value).toArray s 0 0 A) (F0 m 55 ls []) := by
            intro n55m
            induction n55m with
            | zero => intro k gg uu tt y bb hI5 hR5 ho5 hv0 hyy hgg hk hs5 hv25 hmu H locs ls hP hD hS hl; exact absurd hmu (Nat.not_lt_zero _)
            | succ n55m ih55 =>
              intro k gg uu tt y bb hI5 hR5 ho5 hv0 hyy hgg hk hs5 hv25 hmu H locs ls hP hD hS hl
              refine lv_iload hx hb dX5_drift_55 (lv_at hl 3 rfl) ?_
              refine lv_iload_n hx hb dX5_drift_57 rfl (lv_at hl 1 rfl) ?_
              refine lv_icmp_ge (tgt := 131) hx hb dX5_drift_58 (by decide) (fun c58 => ?_) (fun c58 => ?_)
              · skip
                have n58 : a1 ≤ k := (nI_leI (a := a1) (b := k) (by omega) (by omega)).mp c58
                have hfin : sVers a1 (sg, bs, true) = (tt, y, bb) := by first | exact hs5.symm.trans (congrArg (fun n => sVers n (tt, y, bb)) (show a1 - k = 0 by omega)) | exact hs5.symm.trans (sVers_e (fun q => hbb q.1)) | exact hs5.symm.trans (sVers_e (fun q => absurd (show tt.1 0 < 24 from q.2) (by omega)))
                refine lv_aload_n hx hb dX5_drift_131 rfl (lv_at hl 0 rfl) ?_
                refine va_get (D := gD G) (ci := 5) (v := .int (uu.1 0)) (C := RX5) (T := TX5) (N := 38) hx hb hts hiX5 hown hK hP 0 rfl rfl 0 (by decide) k91 (fun _ h9 => h9) rfl dX5_drift_132 ?_
                refine topE hR5.1.1 ?_
                exact W.iret (v := nI (tt.1 0)) hx hb hr (fun t ht hW => ⟨⟨nI (tt.1 0), (uu, lN y, sj), rfl, ⟨by rw [driF, if_neg (not_not_intro ⟨inR_t (by omega) (by omega), nI_p0 (by omega) (by omega), inR_t' (by omega) (by omega), nI_p0 (by omega) (by omega)⟩), if_neg (show ¬ (¬ sg.1 8 = 0 ∨ sg.1 0 = 0) from fun q => by rcases q with q | q; exact q (nI_z (by omega) (h8e.symm.trans c31)); exact n38 q), vN_n (j := a1) (by omega), vN_n' (j := bs) (by omega), sDrift, hfin]; exact hR5, by rw [driA, if_neg (not_not_intro ⟨inR_t (by omega) (by omega), nI_p0 (by omega) (by omega), inR_t' (by omega) (by omega), nI_p0 (by omega) (by omega)⟩), if_neg (show ¬ (¬ sg.1 8 = 0 ∨ sg.1 0 = 0) from fun q => by rcases q with q | q; exact q (nI_z (by omega) (h8e.symm.trans c31)); exact n38 q), vN_n (j := a1) (by omega), vN_n' (j := bs) (by omega), sDrift, hfin]⟩, show PP G (mw G h uu (lN y) sj) t.heap by rw [ht]; exact hP⟩, hS.F ht⟩) hS.2.2 dX5_drift_135
              · skip
                have n58 : ¬ (a1 ≤ k) := fun q9 => c58 ((nI_leI (a := a1) (b := k) (by omega) (by omega)).mpr q9)
                refine lv_iload_n hx hb dX5_drift_61 rfl (lv_at hl 2 rfl) ?_
                refine lv_if_eq (tgt := 131) hx hb dX5_drift_62 (by decide) (fun c62 => ?_) (fun c62 => ?_)
                · skip
                  have hbb : ¬ bb = true := by cases bb; decide; exact absurd (hgg.symm.trans c62) (by decide)
                  have hfin : sVers a1 (sg, bs, true) = (tt, y, bb) := by first | exact hs5.symm.trans (congrArg (fun n => sVers n (tt, y, bb)) (show a1 - k = 0 by omega)) | exact hs5.symm.trans (sVers_e (fun q => hbb q.1)) | exact hs5.symm.trans (sVers_e (fun q => absurd (show tt.1 0 < 24 from q.2) (by omega)))
                  refine lv_aload_n hx hb dX5_drift_131 rfl (lv_at hl 0 rfl) ?_
                  refine va_get (D := gD G) (ci := 5) (v := .int (uu.1 0)) (C := RX5) (T := TX5) (N := 38) hx hb hts hiX5 hown hK hP 0 rfl rfl 0 (by decide) k91 (fun _ h9 => h9) rfl dX5_drift_132 ?_
                  refine topE hR5.1.1 ?_
                  exact W.iret (v := nI (tt.1 0)) hx hb hr (fun t ht hW => ⟨⟨nI (tt.1 0), (uu, lN y, sj), rfl, ⟨by rw [driF, if_neg (not_not_intro ⟨inR_t (by omega) (by omega), nI_p0 (by omega) (by omega), inR_t' (by omega) (by omega), nI_p0 (by omega) (by omega)⟩), if_neg (show ¬ (¬ sg.1 8 = 0 ∨ sg.1 0 = 0) from fun q => by rcases q with q | q; exact q (nI_z (by omega) (h8e.symm.trans c31)); exact n38 q), vN_n (j := a1) (by omega), vN_n' (j := bs) (by omega), sDrift, hfin]; exact hR5, by rw [driA, if_neg (not_not_intro ⟨inR_t (by omega) (by omega), nI_p0 (by omega) (by omega), inR_t' (by omega) (by omega), nI_p0 (by omega) (by omega)⟩), if_neg (show ¬ (¬ sg.1 8 = 0 ∨ sg.1 0 = 0) from fun q => by rcases q with q | q; exact q (nI_z (by omega) (h8e.symm.trans c31)); exact n38 q), vN_n (j := a1) (by omega), vN_n' (j := bs) (by omega), sDrift, hfin]⟩, show PP G (mw G h uu (lN y) sj) t.heap by rw [ht]; exact hP⟩, hS.F ht⟩) hS.2.2 dX5_drift_135
                · skip
                  have hbb : bb = true := by cases bb; (exact absurd (hgg.trans rfl) c62); rfl
                  refine lv_aload_n hx hb dX5_drift_65 rfl (lv_at hl 0 rfl) ?_
                  refine va_get (D := gD G) (ci := 5) (v := .int (uu.1 0)) (C := RX5) (T := TX5) (N := 38) hx hb hts hiX5 hown hK hP 0 rfl rfl 0 (by decide) k91 (fun _ h9 => h9) rfl dX5_drift_66 ?_
                  refine topE hR5.1.1 ?_
                  refine lv_bipush (v := nI 24) hx hb dX5_drift_69 (by decide) ?_
                  refine lv_icmp_ge (tgt := 131) hx hb dX5_drift_71 (by decide) (fun c71 => ?_) (fun c71 => ?_)
                  · skip
                    have n71 : 24 ≤ (tt.1 0) := (nI_leI (a := 24) (b := tt.1 0) (by omega) (by omega)).mp c71
                    have hfin : sVers a1 (sg, bs, true) = (tt, y, bb) := by first | exact hs5.symm.trans (congrArg (fun n => sVers n (tt, y, bb)) (show a1 - k = 0 by omega)) | exact hs5.symm.trans (sVers_e (fun q => hbb q.1)) | exact hs5.symm.trans (sVers_e (fun q => absurd (show tt.1 0 < 24 from q.2) (by omega)))
                    refine lv_aload_n hx hb dX5_drift_131 rfl (lv_at hl 0 rfl) ?_
                    refine va_get (D := gD G) (ci := 5) (v := .int (uu.1 0)) (C := RX5) (T := TX5) (N := 38) hx hb hts hiX5 hown hK hP 0 rfl rfl 0 (by decide) k91 (fun _ h9 => h9) rfl dX5_drift_132 ?_
                    refine topE hR5.1.1 ?_
                    exact W.iret (v := nI (tt.1 0)) hx hb hr (fun t ht hW => ⟨⟨nI (tt.1 0), (uu, lN y, sj), rfl, ⟨by rw [driF, if_neg (not_not_intro ⟨inR_t (by omega) (by omega), nI_p0 (by omega) (by omega), inR_t' (by omega) (by omega), nI_p0 (by omega) (by omega)⟩), if_neg (show ¬ (¬ sg.1 8 = 0 ∨ sg.1 0 = 0) from fun q => by rcases q with q | q; exact q (nI_z (by omega) (h8e.symm.trans c31)); exact n38 q), vN_n (j := a1) (by omega), vN_n' (j := bs) (by omega), sDrift, hfin]; exact hR5, by rw [driA, if_neg (not_not_intro ⟨inR_t (by omega) (by omega), nI_p0 (by omega) (by omega), inR_t' (by omega) (by omega), nI_p0 (by omega) (by omega)⟩), if_neg (show ¬ (¬ sg.1 8 = 0 ∨ sg.1 0 = 0) from fun q => by rcases q with q | q; exact q (nI_z (by omega) (h8e.symm.trans c31)); exact n38 q), vN_n (j := a1) (by omega), vN_n' (j := bs) (by omega), sDrift, hfin]⟩, show PP G (mw G h uu (lN y) sj) t.heap by rw [ht]; exact hP⟩, hS.F ht⟩) hS.2.2 dX5_drift_135
                  · skip
                    have n71 : ¬ (24 ≤ (tt.1 0)) := fun q9 => c71 ((nI_leI (a := 24) (b := tt.1 0) (by omega) (by omega)).mpr q9)
                    have hv24 : tt.1 0 < 24 := by omega
                    refine lv_aload_n hx hb dX5_drift_74 rfl (lv_at hl 0 rfl) ?_
                    refine lv_aload_n hx hb dX5_drift_75 rfl (lv_at hl 0 rfl) ?_
                    refine lv_aload_n hx hb dX5_drift_76 rfl (lv_at hl 0 rfl) ?_
                    refine va_get (D := gD G) (ci := 5) (v := .int (uu.1 0)) (C := RX5) (T := TX5) (N := 38) hx hb hts hiX5 hown hK hP 0 rfl rfl 0 (by decide) k91 (fun _ h9 => h9) rfl dX5_drift_77 ?_
                    refine topE hR5.1.1 ?_
                    refine cXi (As := [.int (nI (tt.1 0))]) (rest := [.ref (h 0)]) (S := oS × Int64 × (Nat → Int64)) (wa := mw G h uu (lN y) sj) (w1 := fun v => mw G h v.1 v.2.1 v.2.2) ⟨hx, hb, hml, hown, hts⟩ (mt_X5_lotByF l G h _ uu (lN y) sj y (tt.1 0) (rfl) (hyy) (hv0) (by first | assumption | omega)) (cwV 1 hts gX5_drift_X5_lotBy rfl rfl rfl ⟨rfl, hd_X5_lotBy⟩ ⟨Nat.le_of_ble_eq_true rfl, Nat.le_of_ble_eq_true rfl⟩) hK hN hP hD hS hA (fun _ => rfl) 0 5 rfl rfl rfl hl.1 rfl (Nat.le_of_ble_eq_true rfl) ⟨Nat.zero_le _, Nat.zero_le _⟩ dX5_drift_80 (fun r80 u80 H locs hw80 hP hD hS => ?_)
                    obtain ⟨rfl, rfl⟩ := hw80
                    have hP : PP G (mw G h uu (lN (lot1 y)) sj) H := hP
                    have hD : va_D A (mw G h uu (lN (lot1 y)) sj) := hD
                    have hl80 : lot1 y < 2147483647 := Nat.mod_lt _ (by omega)
                    have hm80 : lot1 y % (tt.1 0) < (tt.1 0) := Nat.mod_lt _ (by omega)
                    refine cXv (As := [.int (nI (lot1 y % (tt.1 0)))]) (rest := []) (S := oS × Int64 × (Nat → Int64)) (wa := mw G h uu (lN (lot1 y)) sj) (w1 := fun v => mw G h v.1 v.2.1 v.2.2) ⟨hx, hb, hml, hown, hts⟩ (mt_X5_openNow l G h _ uu (lN (lot1 y)) sj (tt.1 0) (tt.1 4) (nI (lot1 y % (tt.1 0))) (hR5.1.1) (hR5.1.2.1) (by first | assumption | omega) (hI5.2.1)) (cwV 1 hts gX5_drift_X5_openNow rfl rfl rfl ⟨rfl, hd_X5_openNow⟩ ⟨Nat.le_of_ble_eq_true rfl, Nat.le_of_ble_eq_true rfl⟩) hK hN hP hD hS hA (fun _ => rfl) 0 5 rfl rfl rfl hl.1 rfl (Nat.le_of_ble_eq_true rfl) ⟨Nat.zero_le _, Nat.zero_le _⟩ dX5_drift_83 (fun u83 H locs hw83 hP hD hS => ?_)
                    obtain rfl := hw83
                    have hP : PP G (mw G h (opU uu (tt.1 0) (tt.1 4) (nI (lot1 y % (tt.1 0)))) (lN (lot1 y)) sj) H := hP
                    have hD : va_D A (mw G h (opU uu (tt.1 0) (tt.1 4) (nI (lot1 y % (tt.1 0)))) (lN (lot1 y)) sj) := hD
                    refine lv_iconst (v := nI 0) hx hb dX5_drift_86 (by decide) ?_
                    refine lv_istore (lv' := [(5, .int (nI 0)), (0, .ref (h 0)), (1, .int (nI a1)), (3, .int gg), (4, .int (nI k))]) hx hb dX5_drift_87 hl (by decide) rfl (fun ls hl => ?_)
                    have LP89 : ∀ (n89m : Nat), ∀ (j : Nat) (gg2 : Int32) (ww : oS) (t2 : pS) (z : Nat) (b2 : Bool) (hI2 : IS t2) (hR2 : RepM ww sj t2 zz) (ho22 : t2.1 8 = 1) (hzz : z < 2147483647) (hgg2 : gg2 = (if b2 = true then 1 else 0)) (hj : j ≤ 3) (hs2 : sLines (3 - j) (t2, z, b2) = (sLines 3 (sOpen tt (nI (lot1 y % tt.1 0)), lot1 y, true))), (3 - j < n89m) → ∀ (H : Heap) (locs : List Loc) (ls : Array Slot), PP G (mw G h ww (lN z) sj) H → va_D A (mw G h ww (lN z) sj) → va_S A s.heap H locs → lv_has ls 6 [(0, .ref (h 0)), (1, .int (nI a1)), (3, .int gg2), (4, .int (nI k)), (5, .int (nI j))] → W p l e (headSpec wsX5_drift ({ frames := 5, cells := 0, slots := 0, locals := 113 })).room s m ([.ref (h 0), .int (nI a1), .int (nI bs)] : List Value).toArray below meth c H locs 0 0 (MQ below (va_Qi (fun (r : Int32) (v : oS × Int64 × (Nat → Int64)) => RepM v.1 v.2.2 (driF sg (nI a1) (nI bs)) zz ∧ r = driA sg (nI a1) (nI bs)) (fun v t => PP G (mw G h v.1 v.2.1 v.2.2) t.heap) A) ([.ref (h 0), .int (nI a1), .int (nI bs)] : List Value).toArray s 0 0 A) (F0 m 89 ls []) := by
                      intro n89m
                      induction n89m with
                      | zero => intro j gg2 ww t2 z b2 hI2 hR2 ho22 hzz hgg2 hj hs2 hmu H locs ls hP hD hS hl; exact absurd hmu (Nat.not_lt_zero _)
                      | succ n89m ih89 =>
                        intro j gg2 ww t2 z b2 hI2 hR2 ho22 hzz hgg2 hj hs2 hmu H locs ls hP hD hS hl
                        refine lv_iload hx hb dX5_drift_89 (lv_at hl 4 rfl) ?_
                        refine lv_iconst (v := nI 3) hx hb dX5_drift_91 (by decide) ?_
                        refine lv_icmp_ge (tgt := 110) hx hb dX5_drift_92 (by decide) (fun c92 => ?_) (fun c92 => ?_)
                        · skip
                          have n92 : 3 ≤ j := (nI_leI (a := 3) (b := j) (by omega) (by omega)).mp c92
                          have hend : (sLines 3 (sOpen tt (nI (lot1 y % tt.1 0)), lot1 y, true)) = (t2, z, b2) := by first | exact hs2.symm.trans (congrArg (fun n => sLines n (t2, z, b2)) (show 3 - j = 0 by omega)) | exact hs2.symm.trans (sLines_e hb2)
                          refine lv_aload_n hx hb dX5_drift_110 rfl (lv_at hl 0 rfl) ?_
                          refine lv_iconst (v := nI 0) hx hb dX5_drift_111 (by decide) ?_
                          refine va_put (D := gD G) (ci := 5) (v := .int (nI 0)) (ty := .boolean) (C := RX5) (T := TX5) (N := 38) hx hb hts hiX5 tyX5 tyX5_ok nmX5 hown hK hP hD hS 0 rfl rfl 8 (by decide) k178 (fun _ h9 => h9) rfl (tyX5_ok 8 (by decide)) (rfl) (rfl) (Nat.le_of_ble_eq_true rfl) dX5_drift_112 (fun H locs hP hD hS => ?_)
                          have hP : PP G (mw G h (oI ww 8 (nI 0)) (lN z) sj) H := hP
                          have hD : va_D A (mw G h (oI ww 8 (nI 0)) (lN z) sj) := hD
                          refine lv_aload_n hx hb dX5_drift_115 rfl (lv_at hl 0 rfl) ?_
                          refine lv_dup hx hb dX5_drift_116 rfl ?_
                          refine va_get (D := gD G) (ci := 5) (v := .int ((oI ww 8 (nI 0)).1 0)) (C := RX5) (T := TX5) (N := 38) hx hb hts hiX5 hown hK hP 0 rfl rfl 0 (by decide) k91 (fun _ h9 => h9) rfl dX5_drift_117 ?_
                          refine topE hR2.1.1 ?_
                          refine lv_iconst (v := nI 1) hx hb dX5_drift_120 (by decide) ?_
                          refine lv_iadd hx hb dX5_drift_121 ?_
                          refine topE (y := nI ((t2.1 0) + 1)) (nI_add (t2.1 0) 1) ?_
                          refine va_put (D := gD G) (ci := 5) (v := .int (nI ((t2.1 0) + 1))) (ty := .int) (C := RX5) (T := TX5) (N := 38) hx hb hts hiX5 tyX5 tyX5_ok nmX5 hown hK hP hD hS 0 rfl rfl 0 (by decide) k91 (fun _ h9 => h9) rfl (tyX5_ok 0 (by decide)) (rfl) (rfl) (Nat.le_of_ble_eq_true rfl) dX5_drift_122 (fun H locs hP hD hS => ?_)
                          have hP : PP G (mw G h (oI (oI ww 8 (nI 0)) 0 (nI ((t2.1 0) + 1))) (lN z) sj) H := hP
                          have hD : va_D A (mw G h (oI (oI ww 8 (nI 0)) 0 (nI ((t2.1 0) + 1))) (lN z) sj) := hD
                          refine lv_iinc (v := nI (k + 1)) (lv' := [(4, .int (nI (k + 1))), (0, .ref (h 0)), (1, .int (nI a1)), (3, .int gg2), (5, .int (nI j))]) hx hb dX5_drift_125 hl (k := 3) rfl (nI_1 k) (by decide) rfl (fun ls hl => ?_)
                          refine lv_goto (tgt := 55) hx hb dX5_drift_128 (by decide) ?_
                          exact ih55 (k + 1) gg2 (oI (oI ww 8 (nI 0)) 0 (nI ((t2.1 0) + 1))) (sClose t2) z b2 (IS_cls hI2 ho22) (RepM_cls hR2 ho22) (rfl) (Nat.succ_pos _) (hzz) (hgg2) (by first | assumption | omega) (((congrArg (sVers _) (show (sClose t2, z, b2) = sVer (tt, y, bb) from (by show _ = (sClose (sLines 3 (sOpen tt (nI (lot1 y % tt.1 0)), lot1 y, true)).1, (sLines 3 (sOpen tt (nI (lot1 y % tt.1 0)), lot1 y, true)).2.1, (sLines 3 (sOpen tt (nI (lot1 y % tt.1 0)), lot1 y, true)).2.2); rw [hend]))).trans ((sVers_s (t := (tt, y, bb)) ⟨hbb, hv24⟩).symm.trans (congrArg (fun n => sVers n (tt, y, bb)) (show a1 - (k + 1) + 1 = a1 - k by omega)))).trans hs5) ((IS_cls hI2 ho22).1) (by omega) _ _ ls hP hD hS (lv_sub hl [1, 2, 3, 0] rfl)
                        · skip
                          have n92 : ¬ (3 ≤ j) := fun q9 => c92 ((nI_leI (a := 3) (b := j) (by omega) (by omega)).mpr q9)
                          refine lv_iload_n hx hb dX5_drift_95 rfl (lv_at hl 2 rfl) ?_
                          refine lv_if_eq (tgt := 110) hx hb dX5_drift_96 (by decide) (fun c96 => ?_) (fun c96 => ?_)
                          · skip
                            have hb2 : ¬ b2 = true := by cases b2; decide; exact absurd (hgg2.symm.trans c96) (by decide)
                            have hend : (sLines 3 (sOpen tt (nI (lot1 y % tt.1 0)), lot1 y, true)) = (t2, z, b2) := by first | exact hs2.symm.trans (congrArg (fun n => sLines n (t2, z, b2)) (show 3 - j = 0 by omega)) | exact hs2.symm.trans (sLines_e hb2)
                            refine lv_aload_n hx hb dX5_drift_110 rfl (lv_at hl 0 rfl) ?_
                            refine lv_iconst (v := nI 0) hx hb dX5_drift_111 (by decide) ?_
                            refine va_put (D := gD G) (ci := 5) (v := .int (nI 0)) (ty := .boolean) (C := RX5) (T := TX5) (N := 38) hx hb hts hiX5 tyX5 tyX5_ok nmX5 hown hK hP hD hS 0 rfl rfl 8 (by decide) k178 (fun _ h9 => h9) rfl (tyX5_ok 8 (by decide)) (rfl) (rfl) (Nat.le_of_ble_eq_true rfl) dX5_drift_112 (fun H locs hP hD hS => ?_)
                            have hP : PP G (mw G h (oI ww 8 (nI 0)) (lN z) sj) H := hP
                            have hD : va_D A (mw G h (oI ww 8 (nI 0)) (lN z) sj) := hD
                            refine lv_aload_n hx hb dX5_drift_115 rfl (lv_at hl 0 rfl) ?_
                            refine lv_dup hx hb dX5_drift_116 rfl ?_
                            refine va_get (D := gD G) (ci := 5) (v := .int ((oI ww 8 (nI 0)).1 0)) (C := RX5) (T := TX5) (N := 38) hx hb hts hiX5 hown hK hP 0 rfl rfl 0 (by decide) k91 (fun _ h9 => h9) rfl dX5_drift_117 ?_
                            refine topE hR2.1.1 ?_
                            refine lv_iconst (v := nI 1) hx hb dX5_drift_120 (by decide) ?_
                            refine lv_iadd hx hb dX5_drift_121 ?_
                            refine topE (y := nI ((t2.1 0) + 1)) (nI_add (t2.1 0) 1) ?_
                            refine va_put (D := gD G) (ci := 5) (v := .int (nI ((t2.1 0) + 1))) (ty := .int) (C := RX5) (T := TX5) (N := 38) hx hb hts hiX5 tyX5 tyX5_ok nmX5 hown hK hP hD hS 0 rfl rfl 0 (by decide) k91 (fun _ h9 => h9) rfl (tyX5_ok 0 (by decide)) (rfl) (rfl) (Nat.le_of_ble_eq_true rfl) dX5_drift_122 (fun H locs hP hD hS => ?_)
                            have hP : PP G (mw G h (oI (oI ww 8 (nI 0)) 0 (nI ((t2.1 0) + 1))) (lN z) sj) H := hP
                            have hD : va_D A (mw G h (oI (oI ww 8 (nI 0)) 0 (nI ((t2.1 0) + 1))) (lN z) sj) := hD
                            refine lv_iinc (v := nI (k + 1)) (lv' := [(4, .int (nI (k + 1))), (0, .ref (h 0)), (1, .int (nI a1)), (3, .int gg2), (5, .int (nI j))]) hx hb dX5_drift_125 hl (k := 3) rfl (nI_1 k) (by decide) rfl (fun ls hl => ?_)
                            refine lv_goto (tgt := 55) hx hb dX5_drift_128 (by decide) ?_
                            exact ih55 (k + 1) gg2 (oI (oI ww 8 (nI 0)) 0 (nI ((t2.1 0) + 1))) (sClose t2) z b2 (IS_cls hI2 ho22) (RepM_cls hR2 ho22) (rfl) (Nat.succ_pos _) (hzz) (hgg2) (by first | assumption | omega) (((congrArg (sVers _) (show (sClose t2, z, b2) = sVer (tt, y, bb) from (by show _ = (sClose (sLines 3 (sOpen tt (nI (lot1 y % tt.1 0)), lot1 y, true)).1, (sLines 3 (sOpen tt (nI (lot1 y % tt.1 0)), lot1 y, true)).2.1, (sLines 3 (sOpen tt (nI (lot1 y % tt.1 0)), lot1 y, true)).2.2); rw [hend]))).trans ((sVers_s (t := (tt, y, bb)) ⟨hbb, hv24⟩).symm.trans (congrArg (fun n => sVers n (tt, y, bb)) (show a1 - (k + 1) + 1 = a1 - k by omega)))).trans hs5) ((IS_cls hI2 ho22).1) (by omega) _ _ ls hP hD hS (lv_sub hl [1, 2, 3, 0] rfl)
                          · skip
                            have hb2 : b2 = true := by cases b2; (exact absurd (hgg2.trans rfl) c96); rfl
                            refine lv_aload_n hx hb dX5_drift_99 rfl (lv_at hl 0 rfl) ?_
                            refine cXi (As := []) (rest := []) (S := oS × Int64 × (Nat → Int64)) (wa := mw G h ww (lN z) sj) (w1 := fun v => mw G h v.1 v.2.1 v.2.2) ⟨hx, hb, hml, hown, hts⟩ (mt_X5_changeByLotsS l G h _ ww (lN z) sj t2 zz z hI2 hR2 (ho22) (rfl) (hzz)) (cwV 0 hts gX5_drift_X5_changeByLots rfl rfl rfl ⟨rfl, hd_X5_changeByLots⟩ ⟨Nat.le_of_ble_eq_true rfl, Nat.le_of_ble_eq_true rfl⟩) hK hN hP hD hS hA (fun _ => rfl) 0 5 rfl rfl rfl hl.1 rfl (Nat.le_of_ble_eq_true rfl) ⟨Nat.zero_le _, Nat.zero_le _⟩ dX5_drift_100 (fun r100 u100 H locs hw100 hP hD hS => ?_)
                            obtain ⟨w100, t100, rfl, et100, hR100, er100⟩ := hw100
                            have hP : PP G (mw G h w100 (lN t100.2.1) sj) H := hP
                            have hD : va_D A (mw G h w100 (lN t100.2.1) sj) := hD
                            refine lv_istore_n (lv' := [(3, .int r100), (0, .ref (h 0)), (1, .int (nI a1)), (4, .int (nI k)), (5, .int (nI j))]) hx hb dX5_drift_103 rfl hl (by decide) rfl (fun ls hl => ?_)
                            refine lv_iinc (v := nI (j + 1)) (lv' := [(5, .int (nI (j + 1))), (3, .int r100), (0, .ref (h 0)), (1, .int (nI a1)), (4, .int (nI k))]) hx hb dX5_drift_104 hl (k := 4) rfl (nI_1 j) (by decide) rfl (fun ls hl => ?_)
                            refine lv_goto (tgt := 89) hx hb dX5_drift_107 (by decide) ?_
                            exact ih89 (j + 1) r100 w100 t100.1 t100.2.1 t100.2.2 ((by rw [et100]; exact IS_line hI2)) (hR100) ((by rw [et100]; exact (sLine_n _ _).2.trans ho22)) ((by rw [et100]; exact sLine_x _ _)) (er100) (by first | assumption | omega) (((congrArg (sLines (3 - (j + 1))) et100).trans ((sLines_s (t := (t2, z, b2)) hb2).symm.trans (congrArg (fun n => sLines n (t2, z, b2)) (show 3 - (j + 1) + 1 = 3 - j by omega)))).trans hs2) (by omega) _ _ ls hP hD hS (lv_sub hl [2, 3, 1, 4, 0] rfl)
                    exact LP89 (3 - 0 + 1) 0 gg (opU uu (tt.1 0) (tt.1 4) (nI (lot1 y % (tt.1 0)))) (sOpen tt (nI (lot1 y % tt.1 0))) (lot1 y) bb (IS_opn hI5 ho5 hv24 (Or.inr ⟨_, Nat.mod_lt _ hv0, rfl⟩)) (RepM_opn hR5 hI5 ho5) (rfl) (lot1_lt _) (hgg) (by first | assumption | omega) ((by rw [hbb])) (Nat.lt_succ_self _) _ _ ls hP hD hS (lv_sub hl [1, 2, 3, 4, 0] rfl)
          exact LP55 (a1 - 0 + 1) 0 (nI 1) u sg bs true (hIS) (hRM) (nI_z (by omega) (h8e.symm.trans c31)) (by omega) (by omega) (rfl) (by first | assumption | omega) (rfl) (hnv24) (Nat.lt_succ_self _) _ _ ls hP hD hS (lv_sub hl [2, 3, 1, 0] rfl)
        · skip
          have n38 : (sg.1 0) = 0 := (nI_eq (a := sg.1 0) (b := 0) (by omega) (by omega)).mp c38
          refine lv_ldc (v := (-1000000003 : Int32)) hx hb hown (hts (.constant RX5 225 (-1000000003)) (List.mem_of_getElem? (i := 6) rfl)) dX5_drift_41 ?_
          exact W.iret (v := (-1000000003 : Int32)) hx hb hr (fun t ht hW => ⟨⟨(-1000000003 : Int32), (u, lt, sj), rfl, ⟨by rw [driF, if_neg (not_not_intro ⟨inR_t (by omega) (by omega), nI_p0 (by omega) (by omega), inR_t' (by omega) (by omega), nI_p0 (by omega) (by omega)⟩), if_pos (by first | exact Or.inr n38 | exact Or.inl (fun q9 => c31 (h8e.trans (by rw [q9]; rfl))))]; exact hRM, by rw [driA, if_neg (not_not_intro ⟨inR_t (by omega) (by omega), nI_p0 (by omega) (by omega), inR_t' (by omega) (by omega), nI_p0 (by omega) (by omega)⟩), if_pos (by first | exact Or.inr n38 | exact Or.inl (fun q9 => c31 (h8e.trans (by rw [q9]; rfl))))]⟩, show PP G (mw G h u lt sj) t.heap by rw [ht]; exact hP⟩, hS.F ht⟩) hS.2.2 dX5_drift_43
    · skip
      refine lv_if_ne (tgt := 27) hx hb dX5_drift_21 (by decide) (fun c9 => absurd (by decide) c9) (fun _ => ?_)
      refine lv_ldc (v := (-1000000002 : Int32)) hx hb hown (hts (.constant RX5 100 (-1000000002)) (List.mem_of_getElem? (i := 3) rfl)) dX5_drift_24 ?_
      exact W.iret (v := (-1000000002 : Int32)) hx hb hr (fun t ht hW => ⟨⟨(-1000000002 : Int32), (u, lt, sj), rfl, ⟨by rw [driF, if_pos (fun q => by first | exact dr64_n (b := 24) rfl rfl hn6 ⟨q.1, q.2.1⟩ | exact dr64_n (b := 999999) rfl rfl hn18 ⟨q.2.2.1, q.2.2.2⟩)]; exact hRM, by rw [driA, if_pos (fun q => by first | exact dr64_n (b := 24) rfl rfl hn6 ⟨q.1, q.2.1⟩ | exact dr64_n (b := 999999) rfl rfl hn18 ⟨q.2.2.1, q.2.2.2⟩)]⟩, show PP G (mw G h u lt sj) t.heap by rw [ht]; exact hP⟩, hS.F ht⟩) hS.2.2 dX5_drift_26
  · skip
    refine lv_if_eq (tgt := 24) hx hb dX5_drift_9 (by decide) (fun _ => ?_) (fun c9 => absurd (by decide) c9)
    refine lv_ldc (v := (-1000000002 : Int32)) hx hb hown (hts (.constant RX5 100 (-1000000002)) (List.mem_of_getElem? (i := 3) rfl)) dX5_drift_24 ?_
    exact W.iret (v := (-1000000002 : Int32)) hx hb hr (fun t ht hW => ⟨⟨(-1000000002 : Int32), (u, lt, sj), rfl, ⟨by rw [driF, if_pos (fun q => by first | exact dr64_n (b := 24) rfl rfl hn6 ⟨q.1, q.2.1⟩ | exact dr64_n (b := 999999) rfl rfl hn18 ⟨q.2.2.1, q.2.2.2⟩)]; exact hRM, by rw [driA, if_pos (fun q => by first | exact dr64_n (b := 24) rfl rfl hn6 ⟨q.1, q.2.1⟩ | exact dr64_n (b := 999999) rfl rfl hn18 ⟨q.2.2.1, q.2.2.2⟩)]⟩, show PP G (mw G h u lt sj) t.heap by rw [ht]; exact hP⟩, hS.F ht⟩) hS.2.2 dX5_drift_26
set_option maxHeartbeats 1000000 in
set_option maxRecDepth 100000 in
theorem mt_X5_toldS (l : Launch) (G : gG) (h : Nat → Nat) (sz : Nat) (u : oS) (lt : Int64) (sj : Nat → Int64) (sg : pS) (zz : Nat → Nat → Int64) (what : Int32) (nh : Nat) (hI : MIx u (sg.1 0) (sg.1 4) (sg.1 10) nh) (hIS : IS sg) (hRM : RepM u sj sg zz) : Met l yX5_told wsX5_told ({ frames := 4, cells := 0, slots := 0, locals := 88 }) (preW G (mw G h u lt sj) sz [.ref (h 0), .int what]) (va_Qi (fun (r : Int32) (v : oS × Int64 × (Nat → Int64)) => RepM v.1 v.2.2 sg zz) (fun v t => PP G (mw G h v.1 v.2.1 v.2.2) t.heap) (va_A (mw G h u lt sj) sz)) 0 0 (va_A (mw G h u lt sj) sz) := by
  refine Met.ofW (cc := cX5_told) (maxL := 2) (ret := (some .int)) (by decide) rfl ?_
  intro p e s m args below meth c s₁ B hml hv
  obtain ⟨ha, hsz, hP, hK, hN, hD0⟩ := hv
  subst ha
  have hx := B.exec
  have hb := B.bytes
  have hr := B.returns
  have hts := atoms_spec (ws := wsX5_told) B.pre
  have hown : s.vm.findClass RX5 = some m.cls := findClass_of_methodNamed B.named
  have hlocks := B.notSynchronized
  subst hsz
  have hD := hD0.self (sz := s.heap.size)
  generalize hAe : va_A (mw G h u lt sj) s.heap.size = A at hD ⊢
  have hA : ∀ q : Nat, s.heap.size ≤ q → A q := fun q h => by rw [← hAe]; exact Or.inr h
  clear hAe hD0
  have hS : va_S A s.heap s.heap [] := va_S.rf
  have hiX5 : ∀ w ∈ wsX50, w ∈ wsX5_told := fun w h9 => List.mem_cons_of_mem _ (List.mem_append_right _ (h9))
  have k91 := hts (.fieldLink RX5 91 "WovenHistoryModel" "versions" "I") (List.mem_of_getElem? (i := 1) rfl)
  have k175 := hts (.fieldLink RX5 175 "WovenHistoryModel" "lines" "I") (List.mem_of_getElem? (i := 2) rfl)
  have k178 := hts (.fieldLink RX5 178 "WovenHistoryModel" "isOpen" "Z") (List.mem_of_getElem? (i := 3) rfl)
  have k7 := hts (.fieldLink RX5 7 "WovenHistoryModel" "parent" "[I") (List.mem_of_getElem? (i := 4) rfl)
  have k101 := hts (.fieldLink RX5 101 "WovenHistoryModel" "texted" "I") (List.mem_of_getElem? (i := 5) rfl)
  have hl := lv_entry ([.ref (h 0), .int what]) (n := 2) (Nat.le_of_ble_eq_true rfl)
  rw [lg_entry_eq]
  generalize (lg_sl ([.ref (h 0), .int what]) ++ List.replicate (2 - (lg_sl ([.ref (h 0), .int what])).length) Slot.unset).toArray = ls at hl ⊢
  have hl : lv_has ls 2 [(0, .ref (h 0)), (1, .int what)] := hl
  have hC := hRM.1
  have hic := hIS.ic
  have hle8 := hIS.2.2.1
  have h8e := hRM.2.1
  have hI0 := hI
  obtain ⟨hnv, hnl, hnt, hnh, hnv24, hnl120, hnt240, hnh120, hop, hopn, hparV, hsz4, himg⟩ := hI
  refine lv_iload_n hx hb dX5_told_0 rfl (lv_at hl 1 rfl) ?_
  by_cases q1_0 : what = 0
  · skip
    subst q1_0
    refine lv_tableIn (tgt := 56) hx hb dX5_told_1 (by decide) (by decide) rfl (by decide) ?_
    refine lv_aload_n hx hb dX5_told_56 rfl (lv_at hl 0 rfl) ?_
    refine va_get (D := gD G) (ci := 5) (v := .int (u.1 0)) (C := RX5) (T := TX5) (N := 38) hx hb hts hiX5 hown hK hP 0 rfl rfl 0 (by decide) k91 (fun _ h9 => h9) rfl dX5_told_57 ?_
    refine topE hnv ?_
    exact W.iret (v := nI (sg.1 0)) hx hb hr (fun t ht hW => ⟨⟨nI (sg.1 0), (u, lt, sj), rfl, hRM, show PP G (mw G h u lt sj) t.heap by rw [ht]; exact hP⟩, hS.F ht⟩) hS.2.2 dX5_told_60
  by_cases q1_1 : what = 1
  · skip
    subst q1_1
    refine lv_tableIn (tgt := 61) hx hb dX5_told_1 (by decide) (by decide) rfl (by decide) ?_
    refine lv_aload_n hx hb dX5_told_61 rfl (lv_at hl 0 rfl) ?_
    refine va_get (D := gD G) (ci := 5) (v := .int (u.1 4)) (C := RX5) (T := TX5) (N := 38) hx hb hts hiX5 hown hK hP 0 rfl rfl 4 (by decide) k175 (fun _ h9 => h9) rfl dX5_told_62 ?_
    refine topE hnl ?_
    exact W.iret (v := nI (sg.1 4)) hx hb hr (fun t ht hW => ⟨⟨nI (sg.1 4), (u, lt, sj), rfl, hRM, show PP G (mw G h u lt sj) t.heap by rw [ht]; exact hP⟩, hS.F ht⟩) hS.2.2 dX5_told_65
  by_cases q1_2 : what = 2
  · skip
    subst q1_2
    refine lv_tableIn (tgt := 66) hx hb dX5_told_1 (by decide) (by decide) rfl (by decide) ?_
    refine lv_aload_n hx hb dX5_told_66 rfl (lv_at hl 0 rfl) ?_
    refine va_get (D := gD G) (ci := 5) (v := .int (u.1 8)) (C := RX5) (T := TX5) (N := 38) hx hb hts hiX5 hown hK hP 0 rfl rfl 8 (by decide) k178 (fun _ h9 => h9) rfl dX5_told_67 ?_
    refine lv_if_eq (tgt := 85) hx hb dX5_told_70 (by decide) (fun c70 => ?_) (fun c70 => ?_)
    · skip
      refine lv_iconst (v := (-1 : Int32)) hx hb dX5_told_85 (by decide) ?_
      exact W.iret (v := (-1 : Int32)) hx hb hr (fun t ht hW => ⟨⟨(-1 : Int32), (u, lt, sj), rfl, hRM, show PP G (mw G h u lt sj) t.heap by rw [ht]; exact hP⟩, hS.F ht⟩) hS.2.2 dX5_told_86
    · skip
      refine lv_aload_n hx hb dX5_told_73 rfl (lv_at hl 0 rfl) ?_
      refine va_get (D := gD G) (ci := 5) (v := .ref (h 1)) (C := RX5) (T := TX5) (N := 38) hx hb hts hiX5 hown hK hP 0 rfl rfl 1 (by decide) k7 (fun _ h9 => h9) rfl dX5_told_74 ?_
      refine lv_aload_n hx hb dX5_told_77 rfl (lv_at hl 0 rfl) ?_
      refine va_get (D := gD G) (ci := 5) (v := .int (u.1 0)) (C := RX5) (T := TX5) (N := 38) hx hb hts hiX5 hown hK hP 0 rfl rfl 0 (by decide) k91 (fun _ h9 => h9) rfl dX5_told_78 ?_
      refine topE hnv ?_
      refine ialdN (f := u.2 1) (n := 25) (k := sg.1 0) hx hb hK hP 1 rfl rfl (by omega) dX5_told_81 ?_
      refine lv_goto (tgt := 86) hx hb dX5_told_82 (by decide) ?_
      exact W.iret (v := (u.2 1) (sg.1 0)) hx hb hr (fun t ht hW => ⟨⟨(u.2 1) (sg.1 0), (u, lt, sj), rfl, hRM, show PP G (mw G h u lt sj) t.heap by rw [ht]; exact hP⟩, hS.F ht⟩) hS.2.2 dX5_told_86
  by_cases q1_3 : what = 3
  · skip
    subst q1_3
    refine lv_tableIn (tgt := 87) hx hb dX5_told_1 (by decide) (by decide) rfl (by decide) ?_
    refine lv_aload_n hx hb dX5_told_87 rfl (lv_at hl 0 rfl) ?_
    refine va_get (D := gD G) (ci := 5) (v := .int (u.1 8)) (C := RX5) (T := TX5) (N := 38) hx hb hts hiX5 hown hK hP 0 rfl rfl 8 (by decide) k178 (fun _ h9 => h9) rfl dX5_told_88 ?_
    refine lv_if_eq (tgt := 98) hx hb dX5_told_91 (by decide) (fun c91 => ?_) (fun c91 => ?_)
    · skip
      refine lv_iconst (v := nI 0) hx hb dX5_told_98 (by decide) ?_
      exact W.iret (v := nI 0) hx hb hr (fun t ht hW => ⟨⟨nI 0, (u, lt, sj), rfl, hRM, show PP G (mw G h u lt sj) t.heap by rw [ht]; exact hP⟩, hS.F ht⟩) hS.2.2 dX5_told_99
    · skip
      refine lv_iconst (v := nI 1) hx hb dX5_told_94 (by decide) ?_
      refine lv_goto (tgt := 99) hx hb dX5_told_95 (by decide) ?_
      exact W.iret (v := nI 1) hx hb hr (fun t ht hW => ⟨⟨nI 1, (u, lt, sj), rfl, hRM, show PP G (mw G h u lt sj) t.heap by rw [ht]; exact hP⟩, hS.F ht⟩) hS.2.2 dX5_told_99
  by_cases q1_4 : what = 4
  · skip
    subst q1_4
    refine lv_tableIn (tgt := 100) hx hb dX5_told_1 (by decide) (by decide) rfl (by decide) ?_
    refine lv_aload_n hx hb dX5_told_100 rfl (lv_at hl 0 rfl) ?_
    refine va_get (D := gD G) (ci := 5) (v := .int (u.1 8)) (C := RX5) (T := TX5) (N := 38) hx hb hts hiX5 hown hK hP 0 rfl rfl 8 (by decide) k178 (fun _ h9 => h9) rfl dX5_told_101 ?_
    refine lv_if_eq (tgt := 122) hx hb dX5_told_104 (by decide) (fun c104 => ?_) (fun c104 => ?_)
    · skip
      refine lv_iconst (v := nI 0) hx hb dX5_told_122 (by decide) ?_
      exact W.iret (v := nI 0) hx hb hr (fun t ht hW => ⟨⟨nI 0, (u, lt, sj), rfl, hRM, show PP G (mw G h u lt sj) t.heap by rw [ht]; exact hP⟩, hS.F ht⟩) hS.2.2 dX5_told_123
    · skip
      obtain ⟨ho1, ho2⟩ := hopn (hop.resolve_left c104)
      refine lv_aload_n hx hb dX5_told_107 rfl (lv_at hl 0 rfl) ?_
      refine lv_aload_n hx hb dX5_told_108 rfl (lv_at hl 0 rfl) ?_
      refine lv_aload_n hx hb dX5_told_109 rfl (lv_at hl 0 rfl) ?_
      refine va_get (D := gD G) (ci := 5) (v := .int (u.1 0)) (C := RX5) (T := TX5) (N := 38) hx hb hts hiX5 hown hK hP 0 rfl rfl 0 (by decide) k91 (fun _ h9 => h9) rfl dX5_told_110 ?_
      refine topE hnv ?_
      have hP := mw_self26 hP
      have hD : va_D A (mw G h (oA u 26 (u.2 26)) lt sj) := mw_self26D hD
      refine cXi (As := [.int (nI (sg.1 0))]) (rest := [.ref (h 0)]) (S := oS × Int64 × (Nat → Int64)) (wa := mw G h (oA u 26 (u.2 26)) lt sj) (w1 := fun v => mw G h v.1 v.2.1 v.2.2) ⟨hx, hb, hml, hown, hts⟩ (mt_X5_changesOf l G h _ u lt sj (u.2 26) (sg.1 0) (by first | assumption | omega) (ho2)) (cwV 1 hts gX5_told_X5_changesOf rfl rfl rfl ⟨rfl, hd_X5_changesOf⟩ ⟨Nat.le_of_ble_eq_true rfl, Nat.le_of_ble_eq_true rfl⟩) hK hN hP hD hS hA (fun _ => rfl) 0 5 rfl rfl rfl hl.1 rfl (Nat.le_of_ble_eq_true rfl) ⟨Nat.zero_le _, Nat.zero_le _⟩ dX5_told_113 (fun r113 u113 H locs hw113 hP hD hS => ?_)
      obtain ⟨g113, rfl, rfl⟩ := hw113
      have hP : PP G (mw G h (oA u 26 g113) lt sj) H := hP
      have hD : va_D A (mw G h (oA u 26 g113) lt sj) := hD
      refine cRi (w := mw G h (oA u 26 g113) lt sj) (As := [.int (chV (u.2 1) (u.2 2) (u.2 3) (nI (sg.1 0)))]) (rest := []) ⟨hx, hb, hml, hown, hts⟩ (mt_X5_manyOf l G h (oA u 26 g113) lt sj (sg.1 4) (chV (u.2 1) (u.2 2) (u.2 3) (nI (sg.1 0))) (hnl) (by first | assumption | omega)) (cwV 1 hts gX5_told_X5_manyOf rfl rfl rfl ⟨rfl, hd_X5_manyOf⟩ ⟨Nat.le_of_ble_eq_true rfl, Nat.le_of_ble_eq_true rfl⟩) hK hN hP 0 5 rfl rfl rfl hl.1 rfl (Nat.le_of_ble_eq_true rfl) ⟨Nat.zero_le _, Nat.zero_le _⟩ dX5_told_116 (fun r116 hw116 => ?_)
      obtain rfl := hw116
      have hc116 := cnt_le (sdb ((oA u 26 g113).2 6) ((oA u 26 g113).2 7) (chV (u.2 1) (u.2 2) (u.2 3) (nI (sg.1 0)))) (sg.1 4)
      refine lv_goto (tgt := 123) hx hb dX5_told_119 (by decide) ?_
      exact W.iret (v := nI (cnt (sdb ((oA u 26 g113).2 6) ((oA u 26 g113).2 7) (chV (u.2 1) (u.2 2) (u.2 3) (nI (sg.1 0)))) (sg.1 4))) hx hb hr (fun t ht hW => ⟨⟨nI (cnt (sdb ((oA u 26 g113).2 6) ((oA u 26 g113).2 7) (chV (u.2 1) (u.2 2) (u.2 3) (nI (sg.1 0)))) (sg.1 4)), (oA u 26 g113, lt, sj), rfl, RepM_26 _ hRM, show PP G (mw G h (oA u 26 g113) lt sj) t.heap by rw [ht]; exact hP⟩, hS.F ht⟩) hS.2.2 dX5_told_123
  by_cases q1_5 : what = 5
  · skip
    subst q1_5
    refine lv_tableIn (tgt := 124) hx hb dX5_told_1 (by decide) (by decide) rfl (by decide) ?_
    refine lv_aload_n hx hb dX5_told_124 rfl (lv_at hl 0 rfl) ?_
    refine cRi (w := mw G h u lt sj) (As := []) (rest := []) ⟨hx, hb, hml, hown, hts⟩ (mt_X5_blocks l G h u lt sj (sg.1 4) (hnl) (by first | assumption | omega)) (cwV 0 hts gX5_told_X5_blocks rfl rfl rfl ⟨rfl, hd_X5_blocks⟩ ⟨Nat.le_of_ble_eq_true rfl, Nat.le_of_ble_eq_true rfl⟩) hK hN hP 0 5 rfl rfl rfl hl.1 rfl (Nat.le_of_ble_eq_true rfl) ⟨Nat.zero_le _, Nat.zero_le _⟩ dX5_told_125 (fun r125 hw125 => ?_)
    obtain rfl := hw125
    have hc125 := cnt_le (nbb (u.2 6) (u.2 7)) (sg.1 4)
    exact W.iret (v := nI (cnt (nbb (u.2 6) (u.2 7)) (sg.1 4))) hx hb hr (fun t ht hW => ⟨⟨nI (cnt (nbb (u.2 6) (u.2 7)) (sg.1 4)), (u, lt, sj), rfl, hRM, show PP G (mw G h u lt sj) t.heap by rw [ht]; exact hP⟩, hS.F ht⟩) hS.2.2 dX5_told_128
  by_cases q1_6 : what = 6
  · skip
    subst q1_6
    refine lv_tableIn (tgt := 129) hx hb dX5_told_1 (by decide) (by decide) rfl (by decide) ?_
    refine lv_aload_n hx hb dX5_told_129 rfl (lv_at hl 0 rfl) ?_
    refine cRi (w := mw G h u lt sj) (As := []) (rest := []) ⟨hx, hb, hml, hown, hts⟩ (mt_X5_nest l G h u lt sj (sg.1 4) (hnl) (by first | assumption | omega)) (cwV 0 hts gX5_told_X5_nest rfl rfl rfl ⟨rfl, hd_X5_nest⟩ ⟨Nat.le_of_ble_eq_true rfl, Nat.le_of_ble_eq_true rfl⟩) hK hN hP 0 5 rfl rfl rfl hl.1 rfl (Nat.le_of_ble_eq_true rfl) ⟨Nat.zero_le _, Nat.zero_le _⟩ dX5_told_130 (fun r130 hw130 => ?_)
    exact W.iret (v := r130) hx hb hr (fun t ht hW => ⟨⟨r130, (u, lt, sj), rfl, hRM, show PP G (mw G h u lt sj) t.heap by rw [ht]; exact hP⟩, hS.F ht⟩) hS.2.2 dX5_told_133
  by_cases q1_7 : what = 7
  · skip
    subst q1_7
    refine lv_tableIn (tgt := 134) hx hb dX5_told_1 (by decide) (by decide) rfl (by decide) ?_
    refine lv_aload_n hx hb dX5_told_134 rfl (lv_at hl 0 rfl) ?_
    have hP := mw_self26 hP
    have hD : va_D A (mw G h (oA u 26 (u.2 26)) lt sj) := mw_self26D hD
    refine cXi (As := []) (rest := []) (S := oS × Int64 × (Nat → Int64)) (wa := mw G h (oA u 26 (u.2 26)) lt sj) (w1 := fun v => mw G h v.1 v.2.1 v.2.2) ⟨hx, hb, hml, hown, hts⟩ (mt_X5_gone l G h _ u lt sj (u.2 26) (sg.1 0) (sg.1 4) (hnv) (hnl) (by first | assumption | omega) (by first | assumption | omega) (by first | assumption | omega)) (cwV 0 hts gX5_told_X5_gone rfl rfl rfl ⟨rfl, hd_X5_gone⟩ ⟨Nat.le_of_ble_eq_true rfl, Nat.le_of_ble_eq_true rfl⟩) hK hN hP hD hS hA (fun _ => rfl) 0 5 rfl rfl rfl hl.1 rfl (Nat.le_of_ble_eq_true rfl) ⟨Nat.zero_le _, Nat.zero_le _⟩ dX5_told_135 (fun r135 u135 H locs hw135 hP hD hS => ?_)
    obtain ⟨g135, rfl⟩ := hw135
    have hP : PP G (mw G h (oA u 26 g135) lt sj) H := hP
    have hD : va_D A (mw G h (oA u 26 g135) lt sj) := hD
    exact W.iret (v := r135) hx hb hr (fun t ht hW => ⟨⟨r135, (oA u 26 g135, lt, sj), rfl, RepM_26 _ hRM, show PP G (mw G h (oA u 26 g135) lt sj) t.heap by rw [ht]; exact hP⟩, hS.F ht⟩) hS.2.2 dX5_told_138
  by_cases q1_8 : what = 8
  · skip
    subst q1_8
    refine lv_tableIn (tgt := 139) hx hb dX5_told_1 (by decide) (by decide) rfl (by decide) ?_
    refine lv_aload_n hx hb dX5_told_139 rfl (lv_at hl 0 rfl) ?_
    refine va_get (D := gD G) (ci := 5) (v := .int (u.1 10)) (C := RX5) (T := TX5) (N := 38) hx hb hts hiX5 hown hK hP 0 rfl rfl 10 (by decide) k101 (fun _ h9 => h9) rfl dX5_told_140 ?_
    refine topE hnt ?_
    exact W.iret (v := nI (sg.1 10)) hx hb hr (fun t ht hW => ⟨⟨nI (sg.1 10), (u, lt, sj), rfl, hRM, show PP G (mw G h u lt sj) t.heap by rw [ht]; exact hP⟩, hS.F ht⟩) hS.2.2 dX5_told_143
  by_cases q1_9 : what = 9
  · skip
    subst q1_9
    refine lv_tableIn (tgt := 144) hx hb dX5_told_1 (by decide) (by decide) rfl (by decide) ?_
    refine lv_aload_n hx hb dX5_told_144 rfl (lv_at hl 0 rfl) ?_
    refine cRi (w := mw G h u lt sj) (As := []) (rest := []) ⟨hx, hb, hml, hown, hts⟩ (mt_X5_sheetsThere l G h u lt sj) (cwV 0 hts gX5_told_X5_sheetsThere rfl rfl rfl ⟨rfl, hd_X5_sheetsThere⟩ ⟨Nat.le_of_ble_eq_true rfl, Nat.le_of_ble_eq_true rfl⟩) hK hN hP 0 5 rfl rfl rfl hl.1 rfl (Nat.le_of_ble_eq_true rfl) ⟨Nat.zero_le _, Nat.zero_le _⟩ dX5_told_145 (fun r145 hw145 => ?_)
    obtain rfl := hw145
    exact W.iret (v := nI (cnt (fun i => decide (¬ u.2 32 i = 0)) 4)) hx hb hr (fun t ht hW => ⟨⟨nI (cnt (fun i => decide (¬ u.2 32 i = 0)) 4), (u, lt, sj), rfl, hRM, show PP G (mw G h u lt sj) t.heap by rw [ht]; exact hP⟩, hS.F ht⟩) hS.2.2 dX5_told_148
  have t1_0 : ¬ what.toInt = 0 := lv_neT q1_0 rfl
  have t1_1 : ¬ what.toInt = 1 := lv_neT q1_1 rfl
  have t1_2 : ¬ what.toInt = 2 := lv_neT q1_2 rfl
  have t1_3 : ¬ what.toInt = 3 := lv_neT q1_3 rfl
  have t1_4 : ¬ what.toInt = 4 := lv_neT q1_4 rfl
  have t1_5 : ¬ what.toInt = 5 := lv_neT q1_5 rfl
  have t1_6 : ¬ what.toInt = 6 := lv_neT q1_6 rfl
  have t1_7 : ¬ what.toInt = 7 := lv_neT q1_7 rfl
  have t1_8 : ¬ what.toInt = 8 := lv_neT q1_8 rfl
  have t1_9 : ¬ what.toInt = 9 := lv_neT q1_9 rfl
  refine lv_tableOut (tgt := 149) hx hb dX5_told_1 (by omega) (by decide) ?_
  refine lv_ldc (v := (-1000000002 : Int32)) hx hb hown (hts (.constant RX5 100 (-1000000002)) (List.mem_of_getElem? (i := 6) rfl)) dX5_told_149 ?_
  exact W.iret (v := (-1000000002 : Int32)) hx hb hr (fun t ht hW => ⟨⟨(-1000000002 : Int32), (u, lt, sj), rfl, hRM, show PP G (mw G h u lt sj) t.heap by rw [ht]; exact hP⟩, hS.F ht⟩) hS.2.2 dX5_told_151
