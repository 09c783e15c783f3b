set_option maxHeartbeats 1000000 in
set_option maxRecDepth 100000 in
theorem mt_X3_findStandingF (l : Launch) (G : gG) (h : Nat → Nat) (w : oS) (nl : Nat) (cs : Int32) (q : Nat) (hnl : w.1 5 = nI nl) (hnl120 : nl ≤ 120) (hq : q < 2147483648) : Met l yX3_findStanding wsX3_findStanding ({ frames := 1, cells := 0, slots := 0, locals := 22 }) (preR G (wv G h w) [.ref (h 0), .int cs, .int (nI q)]) (vp_Si (fun r : Int32 => (∃ i, i < nl ∧ sdb (w.2 7) (w.2 8) cs i = true ∧ cnt (sdb (w.2 7) (w.2 8) cs) i = q ∧ r = nI i) ∨ (cnt (sdb (w.2 7) (w.2 8) cs) nl ≤ q ∧ r = -1))) 0 0 (fun _ => False) := by
  refine Met.ofW (cc := cX3_findStanding) (maxL := 5) (ret := (some .int)) (by decide) rfl ?_
  intro p e s m args below meth c s₁ B hml hv
  obtain ⟨ha, hP, hK, hN⟩ := hv
  subst ha
  have hx := B.exec
  have hb := B.bytes
  have hr := B.returns
  have hts := atoms_spec (ws := wsX3_findStanding) B.pre
  have hown : s.vm.findClass RX3 = some m.cls := findClass_of_methodNamed B.named
  have hlocks := B.notSynchronized
  have hiX3 : ∀ w ∈ wsX30, w ∈ wsX3_findStanding := fun w h9 => List.mem_cons_of_mem _ (List.mem_append_right _ (h9))
  have k28 := hts (.fieldLink RX3 28 "WovenHistory$Weave" "lines" "I") (List.mem_of_getElem? (i := 1) rfl)
  have hl := lv_entry ([.ref (h 0), .int cs, .int (nI q)]) (n := 5) (Nat.le_of_ble_eq_true rfl)
  rw [lg_entry_eq]
  generalize (lg_sl ([.ref (h 0), .int cs, .int (nI q)]) ++ List.replicate (5 - (lg_sl ([.ref (h 0), .int cs, .int (nI q)])).length) Slot.unset).toArray = ls at hl ⊢
  have hl : lv_has ls 5 [(0, .ref (h 0)), (1, .int cs), (2, .int (nI q))] := hl
  refine lv_iload_n hx hb dX3_findStanding_0 rfl (lv_at hl 2 rfl) ?_
  refine lv_istore_n (lv' := [(3, .int (nI q)), (0, .ref (h 0)), (1, .int cs), (2, .int (nI q))]) hx hb dX3_findStanding_1 rfl hl (by decide) rfl (fun ls hl => ?_)
  refine lv_iconst (v := nI 0) hx hb dX3_findStanding_2 (by decide) ?_
  refine lv_istore (lv' := [(4, .int (nI 0)), (3, .int (nI q)), (0, .ref (h 0)), (1, .int cs), (2, .int (nI q))]) hx hb dX3_findStanding_3 hl (by decide) rfl (fun ls hl => ?_)
  have LP5 : ∀ (n5m : Nat), ∀ (k : Nat) (j : Nat) (hk : k ≤ nl) (hj : j + cnt (sdb (w.2 7) (w.2 8) cs) k = q), (nl - k < n5m) → ∀ (ls : Array Slot), lv_has ls 5 [(0, .ref (h 0)), (1, .int cs), (3, .int (nI j)), (4, .int (nI k))] → W p l e (headSpec wsX3_findStanding ({ frames := 1, cells := 0, slots := 0, locals := 22 })).room s m ([.ref (h 0), .int cs, .int (nI q)] : List Value).toArray below meth c s.heap [] 0 0 (MQ below (vp_Si (fun r : Int32 => (∃ i, i < nl ∧ sdb (w.2 7) (w.2 8) cs i = true ∧ cnt (sdb (w.2 7) (w.2 8) cs) i = q ∧ r = nI i) ∨ (cnt (sdb (w.2 7) (w.2 8) cs) nl ≤ q ∧ r = -1))) ([.ref (h 0), .int cs, .int (nI q)] : List Value).toArray s 0 0 (fun _ => False)) (F0 m 5 ls []) := by
    intro n5m
    induction n5m with
    | zero => intro k j hk hj hmu ls hl; exact absurd hmu (Nat.not_lt_zero _)
    | succ n5m ih5 =>
      intro k j hk hj hmu ls hl
      refine lv_iload hx hb dX3_findStanding_5 (lv_at hl 3 rfl) ?_
      refine lv_aload_n hx hb dX3_findStanding_7 rfl (lv_at hl 0 rfl) ?_
      refine va_get (D := gD G) (ci := 3) (v := .int (w.1 5)) (C := RX3) (T := TX3) (N := 9) hx hb hts hiX3 hown hK hP 0 rfl rfl 5 (by decide) k28 (fun _ h9 => h9) rfl dX3_findStanding_8 ?_
      refine topE hnl ?_
      refine lv_icmp_ge (tgt := 40) hx hb dX3_findStanding_11 (by decide) (fun c11 => ?_) (fun c11 => ?_)
      · skip
        have n11 : nl ≤ k := (nI_leI (a := nl) (b := k) (by omega) (by omega)).mp c11
        refine lv_iconst (v := (-1 : Int32)) hx hb dX3_findStanding_40 (by decide) ?_
        exact W.iret (v := (-1 : Int32)) hx hb hr (fun t ht hW => ⟨(-1 : Int32), rfl, Or.inr ⟨by rw [← (show k = nl by omega)]; omega, rfl⟩, ht⟩) (fun _ h9 => by cases h9) dX3_findStanding_41
      · skip
        have n11 : ¬ (nl ≤ k) := fun q9 => c11 ((nI_leI (a := nl) (b := k) (by omega) (by omega)).mpr q9)
        refine lv_aload_n hx hb dX3_findStanding_14 rfl (lv_at hl 0 rfl) ?_
        refine lv_iload hx hb dX3_findStanding_15 (lv_at hl 3 rfl) ?_
        refine lv_iload_n hx hb dX3_findStanding_17 rfl (lv_at hl 1 rfl) ?_
        refine cRi (w := wv G h w) (As := [.int (nI k), .int cs]) (rest := []) ⟨hx, hb, hml, hown, hts⟩ (mt_X3_stands l G h w k cs (by first | assumption | omega)) (cwV 2 hts gX3_findStanding_X3_stands rfl rfl rfl ⟨rfl, hd_X3_stands⟩ ⟨Nat.le_of_ble_eq_true rfl, Nat.le_of_ble_eq_true rfl⟩) hK hN hP 0 3 rfl rfl rfl hl.1 rfl (Nat.le_of_ble_eq_true rfl) ⟨Nat.zero_le _, Nat.zero_le _⟩ dX3_findStanding_18 (fun r18 hw18 => ?_)
        rcases hw18 with ⟨rfl, hy18⟩ | ⟨rfl, hn18⟩
        · skip
          refine lv_if_eq (tgt := 34) hx hb dX3_findStanding_21 (by decide) (fun c9 => absurd c9 (by decide)) (fun _ => ?_)
          refine lv_iload_n hx hb dX3_findStanding_24 rfl (lv_at hl 2 rfl) ?_
          refine lv_if_ne (tgt := 31) hx hb dX3_findStanding_25 (by decide) (fun c25 => ?_) (fun c25 => ?_)
          · skip
            have n25 : ¬ (j = 0) := fun q9 => c25 ((nI_eq (a := j) (b := 0) (by omega) (by omega)).mpr q9)
            refine lv_iinc (v := nI (j - 1)) (lv' := [(3, .int (nI (j - 1))), (0, .ref (h 0)), (1, .int cs), (4, .int (nI k))]) hx hb dX3_findStanding_31 hl (k := 2) rfl (nI_dec j (by omega)) (by decide) rfl (fun ls hl => ?_)
            refine lv_iinc (v := nI (k + 1)) (lv' := [(4, .int (nI (k + 1))), (3, .int (nI (j - 1))), (0, .ref (h 0)), (1, .int cs)]) hx hb dX3_findStanding_34 hl (k := 3) rfl (nI_1 k) (by decide) rfl (fun ls hl => ?_)
            refine lv_goto (tgt := 5) hx hb dX3_findStanding_37 (by decide) ?_
            exact ih5 (k + 1) (j - 1) (by first | assumption | omega) (by first | rfl | (rw [cnt_t (by assumption)]; omega) | (rw [cnt_f (by assumption)]; omega)) (by omega) ls (lv_sub hl [2, 3, 1, 0] rfl)
          · skip
            have n25 : j = 0 := (nI_eq (a := j) (b := 0) (by omega) (by omega)).mp c25
            refine lv_iload hx hb dX3_findStanding_28 (lv_at hl 3 rfl) ?_
            exact W.iret (v := nI k) hx hb hr (fun t ht hW => ⟨nI k, rfl, Or.inl ⟨k, by omega, by assumption, by omega, rfl⟩, ht⟩) (fun _ h9 => by cases h9) dX3_findStanding_30
        · skip
          refine lv_if_eq (tgt := 34) hx hb dX3_findStanding_21 (by decide) (fun _ => ?_) (fun c9 => absurd (by decide) c9)
          refine lv_iinc (v := nI (k + 1)) (lv' := [(4, .int (nI (k + 1))), (0, .ref (h 0)), (1, .int cs), (3, .int (nI j))]) hx hb dX3_findStanding_34 hl (k := 3) rfl (nI_1 k) (by decide) rfl (fun ls hl => ?_)
          refine lv_goto (tgt := 5) hx hb dX3_findStanding_37 (by decide) ?_
          exact ih5 (k + 1) j (by first | assumption | omega) (by first | rfl | (rw [cnt_t (by assumption)]; omega) | (rw [cnt_f (by assumption)]; omega)) (by omega) ls (lv_sub hl [1, 2, 3, 0] rfl)
  exact LP5 (nl - 0 + 1) 0 q (by first | assumption | omega) (by first | rfl | (rw [cnt_t (by assumption)]; omega) | (rw [cnt_f (by assumption)]; omega)) (Nat.lt_succ_self _) ls (lv_sub hl [2, 3, 1, 0] rfl)
set_option maxHeartbeats 1000000 in
set_option maxRecDepth 100000 in
theorem mt_X3_findPartF (l : Launch) (G : gG) (h : Nat → Nat) (w : oS) (nl : Nat) (a : Int32) (b : Int32) (hnl : w.1 5 = nI nl) (hnl120 : nl ≤ 120) : Met l yX3_findPart wsX3_findPart ({ frames := 1, cells := 0, slots := 0, locals := 22 }) (preR G (wv G h w) [.ref (h 0), .int a, .int b]) (vp_Si (fun r : Int32 => r = partP (sdb (w.2 7) (w.2 8) a) (sdb (w.2 7) (w.2 8) b) nl)) 0 0 (fun _ => False) := by
  refine Met.ofW (cc := cX3_findPart) (maxL := 6) (ret := (some .int)) (by decide) rfl ?_
  intro p e s m args below meth c s₁ B hml hv
  obtain ⟨ha, hP, hK, hN⟩ := hv
  subst ha
  have hx := B.exec
  have hb := B.bytes
  have hr := B.returns
  have hts := atoms_spec (ws := wsX3_findPart) B.pre
  have hown : s.vm.findClass RX3 = some m.cls := findClass_of_methodNamed B.named
  have hlocks := B.notSynchronized
  have hiX3 : ∀ w ∈ wsX30, w ∈ wsX3_findPart := fun w h9 => List.mem_cons_of_mem _ (List.mem_append_right _ (h9))
  have k28 := hts (.fieldLink RX3 28 "WovenHistory$Weave" "lines" "I") (List.mem_of_getElem? (i := 1) rfl)
  have hl := lv_entry ([.ref (h 0), .int a, .int b]) (n := 6) (Nat.le_of_ble_eq_true rfl)
  rw [lg_entry_eq]
  generalize (lg_sl ([.ref (h 0), .int a, .int b]) ++ List.replicate (6 - (lg_sl ([.ref (h 0), .int a, .int b])).length) Slot.unset).toArray = ls at hl ⊢
  have hl : lv_has ls 6 [(0, .ref (h 0)), (1, .int a), (2, .int b)] := hl
  refine lv_iconst (v := nI 0) hx hb dX3_findPart_0 (by decide) ?_
  refine lv_istore_n (lv' := [(3, .int (nI 0)), (0, .ref (h 0)), (1, .int a), (2, .int b)]) hx hb dX3_findPart_1 rfl hl (by decide) rfl (fun ls hl => ?_)
  refine lv_iconst (v := nI 0) hx hb dX3_findPart_2 (by decide) ?_
  refine lv_istore (lv' := [(4, .int (nI 0)), (3, .int (nI 0)), (0, .ref (h 0)), (1, .int a), (2, .int b)]) hx hb dX3_findPart_3 hl (by decide) rfl (fun ls hl => ?_)
  have LP5 : ∀ (n5m : Nat), ∀ (k : Nat) (j : Nat) (hk : k ≤ nl) (hj : j = cnt (sdb (w.2 7) (w.2 8) a) k) (hsm : ∀ i, i < k → sdb (w.2 7) (w.2 8) a i = sdb (w.2 7) (w.2 8) b i), (nl - k < n5m) → ∀ (ls : Array Slot), lv_has ls 6 [(0, .ref (h 0)), (1, .int a), (2, .int b), (3, .int (nI j)), (4, .int (nI k))] → W p l e (headSpec wsX3_findPart ({ frames := 1, cells := 0, slots := 0, locals := 22 })).room s m ([.ref (h 0), .int a, .int b] : List Value).toArray below meth c s.heap [] 0 0 (MQ below (vp_Si (fun r : Int32 => r = partP (sdb (w.2 7) (w.2 8) a) (sdb (w.2 7) (w.2 8) b) nl)) ([.ref (h 0), .int a, .int b] : List Value).toArray s 0 0 (fun _ => False)) (F0 m 5 ls []) := by
    intro n5m
    induction n5m with
    | zero => intro k j hk hj hsm hmu ls hl; exact absurd hmu (Nat.not_lt_zero _)
    | succ n5m ih5 =>
      intro k j hk hj hsm hmu ls hl
      refine lv_iload hx hb dX3_findPart_5 (lv_at hl 4 rfl) ?_
      refine lv_aload_n hx hb dX3_findPart_7 rfl (lv_at hl 0 rfl) ?_
      refine va_get (D := gD G) (ci := 3) (v := .int (w.1 5)) (C := RX3) (T := TX3) (N := 9) hx hb hts hiX3 hown hK hP 0 rfl rfl 5 (by decide) k28 (fun _ h9 => h9) rfl dX3_findPart_8 ?_
      refine topE hnl ?_
      refine lv_icmp_ge (tgt := 51) hx hb dX3_findPart_11 (by decide) (fun c11 => ?_) (fun c11 => ?_)
      · skip
        have n11 : nl ≤ k := (nI_leI (a := nl) (b := k) (by omega) (by omega)).mp c11
        refine lv_iconst (v := (-1 : Int32)) hx hb dX3_findPart_51 (by decide) ?_
        exact W.iret (v := (-1 : Int32)) hx hb hr (fun t ht hW => ⟨(-1 : Int32), rfl, by unfold partP; rw [ptN_same (n := nl) (fun i hi => hsm i (by omega)), if_neg (Nat.lt_irrefl _)], ht⟩) (fun _ h9 => by cases h9) dX3_findPart_52
      · skip
        have n11 : ¬ (nl ≤ k) := fun q9 => c11 ((nI_leI (a := nl) (b := k) (by omega) (by omega)).mpr q9)
        refine lv_aload_n hx hb dX3_findPart_14 rfl (lv_at hl 0 rfl) ?_
        refine lv_iload hx hb dX3_findPart_15 (lv_at hl 4 rfl) ?_
        refine lv_iload_n hx hb dX3_findPart_17 rfl (lv_at hl 1 rfl) ?_
        refine cRi (w := wv G h w) (As := [.int (nI k), .int a]) (rest := []) ⟨hx, hb, hml, hown, hts⟩ (mt_X3_stands l G h w k a (by first | assumption | omega)) (cwV 2 hts gX3_findPart_X3_stands rfl rfl rfl ⟨rfl, hd_X3_stands⟩ ⟨Nat.le_of_ble_eq_true rfl, Nat.le_of_ble_eq_true rfl⟩) hK hN hP 0 3 rfl rfl rfl hl.1 rfl (Nat.le_of_ble_eq_true rfl) ⟨Nat.zero_le _, Nat.zero_le _⟩ dX3_findPart_18 (fun r18 hw18 => ?_)
        rcases hw18 with ⟨rfl, hy18⟩ | ⟨rfl, hn18⟩
        · skip
          refine lv_istore (lv' := [(5, .int (1 : Int32)), (0, .ref (h 0)), (1, .int a), (2, .int b), (3, .int (nI j)), (4, .int (nI k))]) hx hb dX3_findPart_21 hl (by decide) rfl (fun ls hl => ?_)
          refine lv_iload hx hb dX3_findPart_23 (lv_at hl 0 rfl) ?_
          refine lv_aload_n hx hb dX3_findPart_25 rfl (lv_at hl 1 rfl) ?_
          refine lv_iload hx hb dX3_findPart_26 (lv_at hl 5 rfl) ?_
          refine lv_iload_n hx hb dX3_findPart_28 rfl (lv_at hl 3 rfl) ?_
          refine cRi (w := wv G h w) (As := [.int (nI k), .int b]) (rest := [.int (1 : Int32)]) ⟨hx, hb, hml, hown, hts⟩ (mt_X3_stands l G h w k b (by first | assumption | omega)) (cwV 2 hts gX3_findPart_X3_stands rfl rfl rfl ⟨rfl, hd_X3_stands⟩ ⟨Nat.le_of_ble_eq_true rfl, Nat.le_of_ble_eq_true rfl⟩) hK hN hP 0 3 rfl rfl rfl hl.1 rfl (Nat.le_of_ble_eq_true rfl) ⟨Nat.zero_le _, Nat.zero_le _⟩ dX3_findPart_29 (fun r29 hw29 => ?_)
          rcases hw29 with ⟨rfl, hy29⟩ | ⟨rfl, hn29⟩
          · skip
            refine lv_icmp_eq (tgt := 37) hx hb dX3_findPart_32 (by decide) (fun _ => ?_) (fun c9 => absurd (by decide) c9)
            refine lv_iload hx hb dX3_findPart_37 (lv_at hl 0 rfl) ?_
            refine lv_if_eq (tgt := 45) hx hb dX3_findPart_39 (by decide) (fun c9 => absurd c9 (by decide)) (fun _ => ?_)
            refine lv_iinc (v := nI (j + 1)) (lv' := [(3, .int (nI (j + 1))), (5, .int (1 : Int32)), (0, .ref (h 0)), (1, .int a), (2, .int b), (4, .int (nI k))]) hx hb dX3_findPart_42 hl (k := 4) rfl (nI_1 j) (by decide) rfl (fun ls hl => ?_)
            refine lv_iinc (v := nI (k + 1)) (lv' := [(4, .int (nI (k + 1))), (3, .int (nI (j + 1))), (5, .int (1 : Int32)), (0, .ref (h 0)), (1, .int a), (2, .int b)]) hx hb dX3_findPart_45 hl (k := 5) rfl (nI_1 k) (by decide) rfl (fun ls hl => ?_)
            refine lv_goto (tgt := 5) hx hb dX3_findPart_48 (by decide) ?_
            exact ih5 (k + 1) (j + 1) (by first | assumption | omega) (by first | rfl | (rw [cnt_t (by assumption)]; omega) | (rw [cnt_f (by assumption)]; omega)) (fun i hi => by by_cases e9 : i = k; (rw [e9]; simp_all); exact hsm i (by omega)) (by omega) ls (lv_sub hl [3, 4, 5, 1, 0] rfl)
          · skip
            refine lv_icmp_eq (tgt := 37) hx hb dX3_findPart_32 (by decide) (fun c9 => absurd c9 (by decide)) (fun _ => ?_)
            refine lv_iload_n hx hb dX3_findPart_35 rfl (lv_at hl 4 rfl) ?_
            exact W.iret (v := nI j) hx hb hr (fun t ht hW => ⟨nI j, rfl, by unfold partP; rw [ptN_at hsm (by simp_all) (by omega), if_pos (by omega), hj], ht⟩) (fun _ h9 => by cases h9) dX3_findPart_36
        · skip
          refine lv_istore (lv' := [(5, .int (0 : Int32)), (0, .ref (h 0)), (1, .int a), (2, .int b), (3, .int (nI j)), (4, .int (nI k))]) hx hb dX3_findPart_21 hl (by decide) rfl (fun ls hl => ?_)
          refine lv_iload hx hb dX3_findPart_23 (lv_at hl 0 rfl) ?_
          refine lv_aload_n hx hb dX3_findPart_25 rfl (lv_at hl 1 rfl) ?_
          refine lv_iload hx hb dX3_findPart_26 (lv_at hl 5 rfl) ?_
          refine lv_iload_n hx hb dX3_findPart_28 rfl (lv_at hl 3 rfl) ?_
          refine cRi (w := wv G h w) (As := [.int (nI k), .int b]) (rest := [.int (0 : Int32)]) ⟨hx, hb, hml, hown, hts⟩ (mt_X3_stands l G h w k b (by first | assumption | omega)) (cwV 2 hts gX3_findPart_X3_stands rfl rfl rfl ⟨rfl, hd_X3_stands⟩ ⟨Nat.le_of_ble_eq_true rfl, Nat.le_of_ble_eq_true rfl⟩) hK hN hP 0 3 rfl rfl rfl hl.1 rfl (Nat.le_of_ble_eq_true rfl) ⟨Nat.zero_le _, Nat.zero_le _⟩ dX3_findPart_29 (fun r29 hw29 => ?_)
          rcases hw29 with ⟨rfl, hy29⟩ | ⟨rfl, hn29⟩
          · skip
            refine lv_icmp_eq (tgt := 37) hx hb dX3_findPart_32 (by decide) (fun c9 => absurd c9 (by decide)) (fun _ => ?_)
            refine lv_iload_n hx hb dX3_findPart_35 rfl (lv_at hl 4 rfl) ?_
            exact W.iret (v := nI j) hx hb hr (fun t ht hW => ⟨nI j, rfl, by unfold partP; rw [ptN_at hsm (by simp_all) (by omega), if_pos (by omega), hj], ht⟩) (fun _ h9 => by cases h9) dX3_findPart_36
          · skip
            refine lv_icmp_eq (tgt := 37) hx hb dX3_findPart_32 (by decide) (fun _ => ?_) (fun c9 => absurd (by decide) c9)
            refine lv_iload hx hb dX3_findPart_37 (lv_at hl 0 rfl) ?_
            refine lv_if_eq (tgt := 45) hx hb dX3_findPart_39 (by decide) (fun _ => ?_) (fun c9 => absurd (by decide) c9)
            refine lv_iinc (v := nI (k + 1)) (lv' := [(4, .int (nI (k + 1))), (5, .int (0 : Int32)), (0, .ref (h 0)), (1, .int a), (2, .int b), (3, .int (nI j))]) hx hb dX3_findPart_45 hl (k := 5) rfl (nI_1 k) (by decide) rfl (fun ls hl => ?_)
            refine lv_goto (tgt := 5) hx hb dX3_findPart_48 (by decide) ?_
            exact ih5 (k + 1) j (by first | assumption | omega) (by first | rfl | (rw [cnt_t (by assumption)]; omega) | (rw [cnt_f (by assumption)]; omega)) (fun i hi => by by_cases e9 : i = k; (rw [e9]; simp_all); exact hsm i (by omega)) (by omega) ls (lv_sub hl [2, 3, 4, 5, 0] rfl)
  exact LP5 (nl - 0 + 1) 0 0 (by first | assumption | omega) (by first | rfl | (rw [cnt_t (by assumption)]; omega) | (rw [cnt_f (by assumption)]; omega)) (fun i hi => absurd hi (Nat.not_lt_zero i)) (Nat.lt_succ_self _) ls (lv_sub hl [2, 3, 4, 1, 0] rfl)
set_option maxHeartbeats 1000000 in
set_option maxRecDepth 100000 in
theorem mt_X3_countBroughtF (l : Launch) (G : gG) (h : Nat → Nat) (w : oS) (nl : Nat) (x : Int32) (hnl : w.1 5 = nI nl) (hnl120 : nl ≤ 120) : Met l yX3_countBrought wsX3_countBrought ({ frames := 0, cells := 0, slots := 0, locals := 0 }) (preR G (wv G h w) [.ref (h 0), .int x]) (vp_Si (fun r : Int32 => r = nI (cnt (fun i => decide (w.2 7 i = x)) nl))) 0 0 (fun _ => False) := by
  refine Met.ofW (cc := cX3_countBrought) (maxL := 4) (ret := (some .int)) (by decide) rfl ?_
  intro p e s m args below meth c s₁ B hml hv
  obtain ⟨ha, hP, hK, hN⟩ := hv
  subst ha
  have hx := B.exec
  have hb := B.bytes
  have hr := B.returns
  have hts := atoms_spec (ws := wsX3_countBrought) B.pre
  have hown : s.vm.findClass RX3 = some m.cls := findClass_of_methodNamed B.named
  have hlocks := B.notSynchronized
  have hiX3 : ∀ w ∈ wsX30, w ∈ wsX3_countBrought := fun w h9 => List.mem_cons_of_mem _ (List.mem_append_right _ (h9))
  have k28 := hts (.fieldLink RX3 28 "WovenHistory$Weave" "lines" "I") (List.mem_of_getElem? (i := 1) rfl)
  have k34 := hts (.fieldLink RX3 34 "WovenHistory$Weave" "brought" "[I") (List.mem_of_getElem? (i := 2) rfl)
  have hl := lv_entry ([.ref (h 0), .int x]) (n := 4) (Nat.le_of_ble_eq_true rfl)
  rw [lg_entry_eq]
  generalize (lg_sl ([.ref (h 0), .int x]) ++ List.replicate (4 - (lg_sl ([.ref (h 0), .int x])).length) Slot.unset).toArray = ls at hl ⊢
  have hl : lv_has ls 4 [(0, .ref (h 0)), (1, .int x)] := hl
  refine lv_iconst (v := nI 0) hx hb dX3_countBrought_0 (by decide) ?_
  refine lv_istore_n (lv' := [(2, .int (nI 0)), (0, .ref (h 0)), (1, .int x)]) hx hb dX3_countBrought_1 rfl hl (by decide) rfl (fun ls hl => ?_)
  refine lv_iconst (v := nI 0) hx hb dX3_countBrought_2 (by decide) ?_
  refine lv_istore_n (lv' := [(3, .int (nI 0)), (2, .int (nI 0)), (0, .ref (h 0)), (1, .int x)]) hx hb dX3_countBrought_3 rfl hl (by decide) rfl (fun ls hl => ?_)
  have LP4 : ∀ (n4m : Nat), ∀ (k : Nat) (j : Nat) (hk : k ≤ nl) (hj : j = cnt (fun i => decide (w.2 7 i = x)) k), (nl - k < n4m) → ∀ (ls : Array Slot), lv_has ls 4 [(0, .ref (h 0)), (1, .int x), (2, .int (nI j)), (3, .int (nI k))] → W p l e (headSpec wsX3_countBrought ({ frames := 0, cells := 0, slots := 0, locals := 0 })).room s m ([.ref (h 0), .int x] : List Value).toArray below meth c s.heap [] 0 0 (MQ below (vp_Si (fun r : Int32 => r = nI (cnt (fun i => decide (w.2 7 i = x)) nl))) ([.ref (h 0), .int x] : List Value).toArray s 0 0 (fun _ => False)) (F0 m 4 ls []) := by
    intro n4m
    induction n4m with
    | zero => intro k j hk hj hmu ls hl; exact absurd hmu (Nat.not_lt_zero _)
    | succ n4m ih4 =>
      intro k j hk hj hmu ls hl
      refine lv_iload_n hx hb dX3_countBrought_4 rfl (lv_at hl 3 rfl) ?_
      refine lv_aload_n hx hb dX3_countBrought_5 rfl (lv_at hl 0 rfl) ?_
      refine va_get (D := gD G) (ci := 3) (v := .int (w.1 5)) (C := RX3) (T := TX3) (N := 9) hx hb hts hiX3 hown hK hP 0 rfl rfl 5 (by decide) k28 (fun _ h9 => h9) rfl dX3_countBrought_6 ?_
      refine topE hnl ?_
      refine lv_icmp_ge (tgt := 31) hx hb dX3_countBrought_9 (by decide) (fun c9 => ?_) (fun c9 => ?_)
      · skip
        have n9 : nl ≤ k := (nI_leI (a := nl) (b := k) (by omega) (by omega)).mp c9
        refine lv_iload_n hx hb dX3_countBrought_31 rfl (lv_at hl 2 rfl) ?_
        exact W.iret (v := nI j) hx hb hr (fun t ht hW => ⟨nI j, rfl, by rw [hj, show k = nl by omega], ht⟩) (fun _ h9 => by cases h9) dX3_countBrought_32
      · skip
        have n9 : ¬ (nl ≤ k) := fun q9 => c9 ((nI_leI (a := nl) (b := k) (by omega) (by omega)).mpr q9)
        refine lv_aload_n hx hb dX3_countBrought_12 rfl (lv_at hl 0 rfl) ?_
        refine va_get (D := gD G) (ci := 3) (v := .ref (h 7)) (C := RX3) (T := TX3) (N := 9) hx hb hts hiX3 hown hK hP 0 rfl rfl 7 (by decide) k34 (fun _ h9 => h9) rfl dX3_countBrought_13 ?_
        refine lv_iload_n hx hb dX3_countBrought_16 rfl (lv_at hl 3 rfl) ?_
        refine ialdN (f := w.2 7) (n := 120) (k := k) hx hb hK hP 6 rfl rfl (by omega) dX3_countBrought_17 ?_
        refine lv_iload_n hx hb dX3_countBrought_18 rfl (lv_at hl 1 rfl) ?_
        refine lv_icmp_ne (tgt := 25) hx hb dX3_countBrought_19 (by decide) (fun c19 => ?_) (fun c19 => ?_)
        · skip
          refine lv_iinc (v := nI (k + 1)) (lv' := [(3, .int (nI (k + 1))), (0, .ref (h 0)), (1, .int x), (2, .int (nI j))]) hx hb dX3_countBrought_25 hl (k := 3) rfl (nI_1 k) (by decide) rfl (fun ls hl => ?_)
          refine lv_goto (tgt := 4) hx hb dX3_countBrought_28 (by decide) ?_
          exact ih4 (k + 1) j (by first | assumption | omega) (by first | rfl | omega | (rw [cnt_t (decide_eq_true (by assumption))]; omega) | (rw [cnt_f (decide_eq_false (by assumption))]; omega) | (rw [cnt_t (by assumption)]; omega) | (rw [cnt_f (by assumption)]; omega)) (by omega) ls (lv_sub hl [1, 2, 3, 0] rfl)
        · skip
          refine lv_iinc (v := nI (j + 1)) (lv' := [(2, .int (nI (j + 1))), (0, .ref (h 0)), (1, .int x), (3, .int (nI k))]) hx hb dX3_countBrought_22 hl (k := 2) rfl (nI_1 j) (by decide) rfl (fun ls hl => ?_)
          refine lv_iinc (v := nI (k + 1)) (lv' := [(3, .int (nI (k + 1))), (2, .int (nI (j + 1))), (0, .ref (h 0)), (1, .int x)]) hx hb dX3_countBrought_25 hl (k := 3) rfl (nI_1 k) (by decide) rfl (fun ls hl => ?_)
          refine lv_goto (tgt := 4) hx hb dX3_countBrought_28 (by decide) ?_
          exact ih4 (k + 1) (j + 1) (by first | assumption | omega) (by first | rfl | omega | (rw [cnt_t (decide_eq_true (by assumption))]; omega) | (rw [cnt_f (decide_eq_false (by assumption))]; omega) | (rw [cnt_t (by assumption)]; omega) | (rw [cnt_f (by assumption)]; omega)) (by omega) ls (lv_sub hl [2, 3, 1, 0] rfl)
  exact LP4 (nl - 0 + 1) 0 0 (by first | assumption | omega) (by first | rfl | omega | (rw [cnt_t (decide_eq_true (by assumption))]; omega) | (rw [cnt_f (decide_eq_false (by assumption))]; omega) | (rw [cnt_t (by assumption)]; omega) | (rw [cnt_f (by assumption)]; omega)) (Nat.lt_succ_self _) ls (lv_sub hl [2, 3, 1, 0] rfl)
set_option maxHeartbeats 1000000 in
set_option maxRecDepth 100000 in
theorem mt_X3_countTakenF (l : Launch) (G : gG) (h : Nat → Nat) (w : oS) (nl : Nat) (x : Int32) (hnl : w.1 5 = nI nl) (hnl120 : nl ≤ 120) : Met l yX3_countTaken wsX3_countTaken ({ frames := 2, cells := 0, slots := 0, locals := 41 }) (preR G (wv G h w) [.ref (h 0), .int x]) (vp_Si (fun r : Int32 => r = nI (cnt (fun i => decide (¬ w.2 8 i &&& onl x = 0)) nl))) 0 0 (fun _ => False) := by
  refine Met.ofW (cc := cX3_countTaken) (maxL := 4) (ret := (some .int)) (by decide) rfl ?_
  intro p e s m args below meth c s₁ B hml hv
  obtain ⟨ha, hP, hK, hN⟩ := hv
  subst ha
  have hx := B.exec
  have hb := B.bytes
  have hr := B.returns
  have hts := atoms_spec (ws := wsX3_countTaken) B.pre
  have hown : s.vm.findClass RX3 = some m.cls := findClass_of_methodNamed B.named
  have hlocks := B.notSynchronized
  have hiX3 : ∀ w ∈ wsX30, w ∈ wsX3_countTaken := fun w h9 => List.mem_cons_of_mem _ (List.mem_append_right _ (h9))
  have k28 := hts (.fieldLink RX3 28 "WovenHistory$Weave" "lines" "I") (List.mem_of_getElem? (i := 1) rfl)
  have k37 := hts (.fieldLink RX3 37 "WovenHistory$Weave" "took" "[I") (List.mem_of_getElem? (i := 2) rfl)
  have hl := lv_entry ([.ref (h 0), .int x]) (n := 4) (Nat.le_of_ble_eq_true rfl)
  rw [lg_entry_eq]
  generalize (lg_sl ([.ref (h 0), .int x]) ++ List.replicate (4 - (lg_sl ([.ref (h 0), .int x])).length) Slot.unset).toArray = ls at hl ⊢
  have hl : lv_has ls 4 [(0, .ref (h 0)), (1, .int x)] := hl
  refine lv_iconst (v := nI 0) hx hb dX3_countTaken_0 (by decide) ?_
  refine lv_istore_n (lv' := [(2, .int (nI 0)), (0, .ref (h 0)), (1, .int x)]) hx hb dX3_countTaken_1 rfl hl (by decide) rfl (fun ls hl => ?_)
  refine lv_iconst (v := nI 0) hx hb dX3_countTaken_2 (by decide) ?_
  refine lv_istore_n (lv' := [(3, .int (nI 0)), (2, .int (nI 0)), (0, .ref (h 0)), (1, .int x)]) hx hb dX3_countTaken_3 rfl hl (by decide) rfl (fun ls hl => ?_)
  have LP4 : ∀ (n4m : Nat), ∀ (k : Nat) (j : Nat) (hk : k ≤ nl) (hj : j = cnt (fun i => decide (¬ w.2 8 i &&& onl x = 0)) k), (nl - k < n4m) → ∀ (ls : Array Slot), lv_has ls 4 [(0, .ref (h 0)), (1, .int x), (2, .int (nI j)), (3, .int (nI k))] → W p l e (headSpec wsX3_countTaken ({ frames := 2, cells := 0, slots := 0, locals := 41 })).room s m ([.ref (h 0), .int x] : List Value).toArray below meth c s.heap [] 0 0 (MQ below (vp_Si (fun r : Int32 => r = nI (cnt (fun i => decide (¬ w.2 8 i &&& onl x = 0)) nl))) ([.ref (h 0), .int x] : List Value).toArray s 0 0 (fun _ => False)) (F0 m 4 ls []) := by
    intro n4m
    induction n4m with
    | zero => intro k j hk hj hmu ls hl; exact absurd hmu (Nat.not_lt_zero _)
    | succ n4m ih4 =>
      intro k j hk hj hmu ls hl
      refine lv_iload_n hx hb dX3_countTaken_4 rfl (lv_at hl 3 rfl) ?_
      refine lv_aload_n hx hb dX3_countTaken_5 rfl (lv_at hl 0 rfl) ?_
      refine va_get (D := gD G) (ci := 3) (v := .int (w.1 5)) (C := RX3) (T := TX3) (N := 9) hx hb hts hiX3 hown hK hP 0 rfl rfl 5 (by decide) k28 (fun _ h9 => h9) rfl dX3_countTaken_6 ?_
      refine topE hnl ?_
      refine lv_icmp_ge (tgt := 34) hx hb dX3_countTaken_9 (by decide) (fun c9 => ?_) (fun c9 => ?_)
      · skip
        have n9 : nl ≤ k := (nI_leI (a := nl) (b := k) (by omega) (by omega)).mp c9
        refine lv_iload_n hx hb dX3_countTaken_34 rfl (lv_at hl 2 rfl) ?_
        exact W.iret (v := nI j) hx hb hr (fun t ht hW => ⟨nI j, rfl, by rw [hj, show k = nl by omega], ht⟩) (fun _ h9 => by cases h9) dX3_countTaken_35
      · skip
        have n9 : ¬ (nl ≤ k) := fun q9 => c9 ((nI_leI (a := nl) (b := k) (by omega) (by omega)).mpr q9)
        refine lv_aload_n hx hb dX3_countTaken_12 rfl (lv_at hl 0 rfl) ?_
        refine va_get (D := gD G) (ci := 3) (v := .ref (h 8)) (C := RX3) (T := TX3) (N := 9) hx hb hts hiX3 hown hK hP 0 rfl rfl 8 (by decide) k37 (fun _ h9 => h9) rfl dX3_countTaken_13 ?_
        refine lv_iload_n hx hb dX3_countTaken_16 rfl (lv_at hl 3 rfl) ?_
        refine ialdN (f := w.2 8) (n := 120) (k := k) hx hb hK hP 7 rfl rfl (by omega) dX3_countTaken_17 ?_
        refine lv_iload_n hx hb dX3_countTaken_18 rfl (lv_at hl 1 rfl) ?_
        refine cSi (As := [.int ((w.2 8) k), .int x]) (rest := []) ⟨hx, hb, hml, hown, hts⟩ (mt_X3_holdsF l ((w.2 8) k) x) (va_cwS 2 hts gX3_countTaken_X3_holds rfl rfl rfl hd_X3_holds ⟨Nat.le_of_ble_eq_true rfl, Nat.le_of_ble_eq_true rfl⟩) rfl hl.1 rfl (Nat.le_of_ble_eq_true rfl) ⟨Nat.zero_le _, Nat.zero_le _⟩ dX3_countTaken_19 (fun r19 hw19 => ?_)
        rcases hw19 with ⟨rfl, hy19⟩ | ⟨rfl, hn19⟩
        · skip
          refine lv_if_eq (tgt := 28) hx hb dX3_countTaken_22 (by decide) (fun c9 => absurd c9 (by decide)) (fun _ => ?_)
          refine lv_iinc (v := nI (j + 1)) (lv' := [(2, .int (nI (j + 1))), (0, .ref (h 0)), (1, .int x), (3, .int (nI k))]) hx hb dX3_countTaken_25 hl (k := 2) rfl (nI_1 j) (by decide) rfl (fun ls hl => ?_)
          refine lv_iinc (v := nI (k + 1)) (lv' := [(3, .int (nI (k + 1))), (2, .int (nI (j + 1))), (0, .ref (h 0)), (1, .int x)]) hx hb dX3_countTaken_28 hl (k := 3) rfl (nI_1 k) (by decide) rfl (fun ls hl => ?_)
          refine lv_goto (tgt := 4) hx hb dX3_countTaken_31 (by decide) ?_
          exact ih4 (k + 1) (j + 1) (by first | assumption | omega) (by first | rfl | omega | (rw [cnt_t (decide_eq_true (by assumption))]; omega) | (rw [cnt_f (decide_eq_false (by assumption))]; omega) | (rw [cnt_t (by assumption)]; omega) | (rw [cnt_f (by assumption)]; omega) | (rw [cnt_f (decide_eq_false (not_not_intro (by assumption)))]; omega)) (by omega) ls (lv_sub hl [2, 3, 1, 0] rfl)
        · skip
          refine lv_if_eq (tgt := 28) hx hb dX3_countTaken_22 (by decide) (fun _ => ?_) (fun c9 => absurd (by decide) c9)
          refine lv_iinc (v := nI (k + 1)) (lv' := [(3, .int (nI (k + 1))), (0, .ref (h 0)), (1, .int x), (2, .int (nI j))]) hx hb dX3_countTaken_28 hl (k := 3) rfl (nI_1 k) (by decide) rfl (fun ls hl => ?_)
          refine lv_goto (tgt := 4) hx hb dX3_countTaken_31 (by decide) ?_
          exact ih4 (k + 1) j (by first | assumption | omega) (by first | rfl | omega | (rw [cnt_t (decide_eq_true (by assumption))]; omega) | (rw [cnt_f (decide_eq_false (by assumption))]; omega) | (rw [cnt_t (by assumption)]; omega) | (rw [cnt_f (by assumption)]; omega) | (rw [cnt_f (decide_eq_false (not_not_intro (by assumption)))]; omega)) (by omega) ls (lv_sub hl [1, 2, 3, 0] rfl)
  exact LP4 (nl - 0 + 1) 0 0 (by first | assumption | omega) (by first | rfl | omega | (rw [cnt_t (decide_eq_true (by assumption))]; omega) | (rw [cnt_f (decide_eq_false (by assumption))]; omega) | (rw [cnt_t (by assumption)]; omega) | (rw [cnt_f (by assumption)]; omega) | (rw [cnt_f (decide_eq_false (not_not_intro (by assumption)))]; omega)) (Nat.lt_succ_self _) ls (lv_sub hl [2, 3, 1, 0] rfl)
set_option maxHeartbeats 1000000 in
set_option maxRecDepth 100000 in
theorem mt_X3_countShareF (l : Launch) (G : gG) (h : Nat → Nat) (w : oS) (nl : Nat) (cs : Int32) (x : Int32) (hnl : w.1 5 = nI nl) (hnl120 : nl ≤ 120) : Met l yX3_countShare wsX3_countShare ({ frames := 1, cells := 0, slots := 0, locals := 22 }) (preR G (wv G h w) [.ref (h 0), .int cs, .int x]) (vp_Si (fun r : Int32 => r = nI (cnt (fun i => decide (w.2 7 i = x) && sdb (w.2 7) (w.2 8) cs i) nl))) 0 0 (fun _ => False) := by
  refine Met.ofW (cc := cX3_countShare) (maxL := 5) (ret := (some .int)) (by decide) rfl ?_
  intro p e s m args below meth c s₁ B hml hv
  obtain ⟨ha, hP, hK, hN⟩ := hv
  subst ha
  have hx := B.exec
  have hb := B.bytes
  have hr := B.returns
  have hts := atoms_spec (ws := wsX3_countShare) B.pre
  have hown : s.vm.findClass RX3 = some m.cls := findClass_of_methodNamed B.named
  have hlocks := B.notSynchronized
  have hiX3 : ∀ w ∈ wsX30, w ∈ wsX3_countShare := fun w h9 => List.mem_cons_of_mem _ (List.mem_append_right _ (h9))
  have k28 := hts (.fieldLink RX3 28 "WovenHistory$Weave" "lines" "I") (List.mem_of_getElem? (i := 1) rfl)
  have k34 := hts (.fieldLink RX3 34 "WovenHistory$Weave" "brought" "[I") (List.mem_of_getElem? (i := 2) rfl)
  have hl := lv_entry ([.ref (h 0), .int cs, .int x]) (n := 5) (Nat.le_of_ble_eq_true rfl)
  rw [lg_entry_eq]
  generalize (lg_sl ([.ref (h 0), .int cs, .int x]) ++ List.replicate (5 - (lg_sl ([.ref (h 0), .int cs, .int x])).length) Slot.unset).toArray = ls at hl ⊢
  have hl : lv_has ls 5 [(0, .ref (h 0)), (1, .int cs), (2, .int x)] := hl
  refine lv_iconst (v := nI 0) hx hb dX3_countShare_0 (by decide) ?_
  refine lv_istore_n (lv' := [(3, .int (nI 0)), (0, .ref (h 0)), (1, .int cs), (2, .int x)]) hx hb dX3_countShare_1 rfl hl (by decide) rfl (fun ls hl => ?_)
  refine lv_iconst (v := nI 0) hx hb dX3_countShare_2 (by decide) ?_
  refine lv_istore (lv' := [(4, .int (nI 0)), (3, .int (nI 0)), (0, .ref (h 0)), (1, .int cs), (2, .int x)]) hx hb dX3_countShare_3 hl (by decide) rfl (fun ls hl => ?_)
  have LP5 : ∀ (n5m : Nat), ∀ (k : Nat) (j : Nat) (hk : k ≤ nl) (hj : j = cnt (fun i => decide (w.2 7 i = x) && sdb (w.2 7) (w.2 8) cs i) k), (nl - k < n5m) → ∀ (ls : Array Slot), lv_has ls 5 [(0, .ref (h 0)), (1, .int cs), (2, .int x), (3, .int (nI j)), (4, .int (nI k))] → W p l e (headSpec wsX3_countShare ({ frames := 1, cells := 0, slots := 0, locals := 22 })).room s m ([.ref (h 0), .int cs, .int x] : List Value).toArray below meth c s.heap [] 0 0 (MQ below (vp_Si (fun r : Int32 => r = nI (cnt (fun i => decide (w.2 7 i = x) && sdb (w.2 7) (w.2 8) cs i) nl))) ([.ref (h 0), .int cs, .int x] : List Value).toArray s 0 0 (fun _ => False)) (F0 m 5 ls []) := by
    intro n5m
    induction n5m with
    | zero => intro k j hk hj hmu ls hl; exact absurd hmu (Nat.not_lt_zero _)
    | succ n5m ih5 =>
      intro k j hk hj hmu ls hl
      refine lv_iload hx hb dX3_countShare_5 (lv_at hl 4 rfl) ?_
      refine lv_aload_n hx hb dX3_countShare_7 rfl (lv_at hl 0 rfl) ?_
      refine va_get (D := gD G) (ci := 3) (v := .int (w.1 5)) (C := RX3) (T := TX3) (N := 9) hx hb hts hiX3 hown hK hP 0 rfl rfl 5 (by decide) k28 (fun _ h9 => h9) rfl dX3_countShare_8 ?_
      refine topE hnl ?_
      refine lv_icmp_ge (tgt := 44) hx hb dX3_countShare_11 (by decide) (fun c11 => ?_) (fun c11 => ?_)
      · skip
        have n11 : nl ≤ k := (nI_leI (a := nl) (b := k) (by omega) (by omega)).mp c11
        refine lv_iload_n hx hb dX3_countShare_44 rfl (lv_at hl 3 rfl) ?_
        exact W.iret (v := nI j) hx hb hr (fun t ht hW => ⟨nI j, rfl, by rw [hj, show k = nl by omega], ht⟩) (fun _ h9 => by cases h9) dX3_countShare_45
      · skip
        have n11 : ¬ (nl ≤ k) := fun q9 => c11 ((nI_leI (a := nl) (b := k) (by omega) (by omega)).mpr q9)
        refine lv_aload_n hx hb dX3_countShare_14 rfl (lv_at hl 0 rfl) ?_
        refine va_get (D := gD G) (ci := 3) (v := .ref (h 7)) (C := RX3) (T := TX3) (N := 9) hx hb hts hiX3 hown hK hP 0 rfl rfl 7 (by decide) k34 (fun _ h9 => h9) rfl dX3_countShare_15 ?_
        refine lv_iload hx hb dX3_countShare_18 (lv_at hl 4 rfl) ?_
        refine ialdN (f := w.2 7) (n := 120) (k := k) hx hb hK hP 6 rfl rfl (by omega) dX3_countShare_20 ?_
        refine lv_iload_n hx hb dX3_countShare_21 rfl (lv_at hl 2 rfl) ?_
        refine lv_icmp_ne (tgt := 38) hx hb dX3_countShare_22 (by decide) (fun c22 => ?_) (fun c22 => ?_)
        · skip
          refine lv_iinc (v := nI (k + 1)) (lv' := [(4, .int (nI (k + 1))), (0, .ref (h 0)), (1, .int cs), (2, .int x), (3, .int (nI j))]) hx hb dX3_countShare_38 hl (k := 4) rfl (nI_1 k) (by decide) rfl (fun ls hl => ?_)
          refine lv_goto (tgt := 5) hx hb dX3_countShare_41 (by decide) ?_
          exact ih5 (k + 1) j (by first | assumption | omega) (by first | rfl | omega | (rw [cnt_t (by simp_all)]; omega) | (rw [cnt_f (by simp_all)]; omega)) (by omega) ls (lv_sub hl [1, 2, 3, 4, 0] rfl)
        · skip
          refine lv_aload_n hx hb dX3_countShare_25 rfl (lv_at hl 0 rfl) ?_
          refine lv_iload hx hb dX3_countShare_26 (lv_at hl 4 rfl) ?_
          refine lv_iload_n hx hb dX3_countShare_28 rfl (lv_at hl 1 rfl) ?_
          refine cRi (w := wv G h w) (As := [.int (nI k), .int cs]) (rest := []) ⟨hx, hb, hml, hown, hts⟩ (mt_X3_stands l G h w k cs (by first | assumption | omega)) (cwV 2 hts gX3_countShare_X3_stands rfl rfl rfl ⟨rfl, hd_X3_stands⟩ ⟨Nat.le_of_ble_eq_true rfl, Nat.le_of_ble_eq_true rfl⟩) hK hN hP 0 3 rfl rfl rfl hl.1 rfl (Nat.le_of_ble_eq_true rfl) ⟨Nat.zero_le _, Nat.zero_le _⟩ dX3_countShare_29 (fun r29 hw29 => ?_)
          rcases hw29 with ⟨rfl, hy29⟩ | ⟨rfl, hn29⟩
          · skip
            refine lv_if_eq (tgt := 38) hx hb dX3_countShare_32 (by decide) (fun c9 => absurd c9 (by decide)) (fun _ => ?_)
            refine lv_iinc (v := nI (j + 1)) (lv' := [(3, .int (nI (j + 1))), (0, .ref (h 0)), (1, .int cs), (2, .int x), (4, .int (nI k))]) hx hb dX3_countShare_35 hl (k := 3) rfl (nI_1 j) (by decide) rfl (fun ls hl => ?_)
            refine lv_iinc (v := nI (k + 1)) (lv' := [(4, .int (nI (k + 1))), (3, .int (nI (j + 1))), (0, .ref (h 0)), (1, .int cs), (2, .int x)]) hx hb dX3_countShare_38 hl (k := 4) rfl (nI_1 k) (by decide) rfl (fun ls hl => ?_)
            refine lv_goto (tgt := 5) hx hb dX3_countShare_41 (by decide) ?_
            exact ih5 (k + 1) (j + 1) (by first | assumption | omega) (by first | rfl | omega | (rw [cnt_t (by simp_all)]; omega) | (rw [cnt_f (by simp_all)]; omega)) (by omega) ls (lv_sub hl [2, 3, 4, 1, 0] rfl)
          · skip
            refine lv_if_eq (tgt := 38) hx hb dX3_countShare_32 (by decide) (fun _ => ?_) (fun c9 => absurd (by decide) c9)
            refine lv_iinc (v := nI (k + 1)) (lv' := [(4, .int (nI (k + 1))), (0, .ref (h 0)), (1, .int cs), (2, .int x), (3, .int (nI j))]) hx hb dX3_countShare_38 hl (k := 4) rfl (nI_1 k) (by decide) rfl (fun ls hl => ?_)
            refine lv_goto (tgt := 5) hx hb dX3_countShare_41 (by decide) ?_
            exact ih5 (k + 1) j (by first | assumption | omega) (by first | rfl | omega | (rw [cnt_t (by simp_all)]; omega) | (rw [cnt_f (by simp_all)]; omega)) (by omega) ls (lv_sub hl [1, 2, 3, 4, 0] rfl)
  exact LP5 (nl - 0 + 1) 0 0 (by first | assumption | omega) (by first | rfl | omega | (rw [cnt_t (by simp_all)]; omega) | (rw [cnt_f (by simp_all)]; omega)) (Nat.lt_succ_self _) ls (lv_sub hl [2, 3, 4, 1, 0] rfl)
set_option maxHeartbeats 1000000 in
set_option maxRecDepth 100000 in
theorem mt_X3_lifeOfF (l : Launch) (G : gG) (h : Nat → Nat) (w : oS) (nv : Nat) (i : Nat) (hnv : w.1 0 = nI nv) (hnv24 : nv ≤ 24) (hi : i < 120) : Met l yX3_lifeOf wsX3_lifeOf ({ frames := 1, cells := 0, slots := 0, locals := 22 }) (preR G (wv G h w) [.ref (h 0), .int (nI i)]) (vp_Si (fun r : Int32 => r = lifF (fun v => sdb (w.2 7) (w.2 8) (w.2 4 v) i) nv)) 0 0 (fun _ => False) := by
  refine Met.ofW (cc := cX3_lifeOf) (maxL := 4) (ret := (some .int)) (by decide) rfl ?_
  intro p e s m args below meth c s₁ B hml hv
  obtain ⟨ha, hP, hK, hN⟩ := hv
  subst ha
  have hx := B.exec
  have hb := B.bytes
  have hr := B.returns
  have hts := atoms_spec (ws := wsX3_lifeOf) B.pre
  have hown : s.vm.findClass RX3 = some m.cls := findClass_of_methodNamed B.named
  have hlocks := B.notSynchronized
  have hiX3 : ∀ w ∈ wsX30, w ∈ wsX3_lifeOf := fun w h9 => List.mem_cons_of_mem _ (List.mem_append_right _ (h9))
  have k9 := hts (.fieldLink RX3 9 "WovenHistory$Weave" "versions" "I") (List.mem_of_getElem? (i := 1) rfl)
  have k25 := hts (.fieldLink RX3 25 "WovenHistory$Weave" "changes" "[I") (List.mem_of_getElem? (i := 2) rfl)
  have hl := lv_entry ([.ref (h 0), .int (nI i)]) (n := 4) (Nat.le_of_ble_eq_true rfl)
  rw [lg_entry_eq]
  generalize (lg_sl ([.ref (h 0), .int (nI i)]) ++ List.replicate (4 - (lg_sl ([.ref (h 0), .int (nI i)])).length) Slot.unset).toArray = ls at hl ⊢
  have hl : lv_has ls 4 [(0, .ref (h 0)), (1, .int (nI i))] := hl
  refine lv_iconst (v := nI 0) hx hb dX3_lifeOf_0 (by decide) ?_
  refine lv_istore_n (lv' := [(2, .int (nI 0)), (0, .ref (h 0)), (1, .int (nI i))]) hx hb dX3_lifeOf_1 rfl hl (by decide) rfl (fun ls hl => ?_)
  refine lv_iconst (v := nI 0) hx hb dX3_lifeOf_2 (by decide) ?_
  refine lv_istore_n (lv' := [(3, .int (nI 0)), (2, .int (nI 0)), (0, .ref (h 0)), (1, .int (nI i))]) hx hb dX3_lifeOf_3 rfl hl (by decide) rfl (fun ls hl => ?_)
  have LP4 : ∀ (n4m : Nat), ∀ (k : Nat) (y : Int32) (hk : k ≤ nv) (hy : y = lifF (fun v => sdb (w.2 7) (w.2 8) (w.2 4 v) i) k), (nv - k < n4m) → ∀ (ls : Array Slot), lv_has ls 4 [(0, .ref (h 0)), (1, .int (nI i)), (2, .int y), (3, .int (nI k))] → W p l e (headSpec wsX3_lifeOf ({ frames := 1, cells := 0, slots := 0, locals := 22 })).room s m ([.ref (h 0), .int (nI i)] : List Value).toArray below meth c s.heap [] 0 0 (MQ below (vp_Si (fun r : Int32 => r = lifF (fun v => sdb (w.2 7) (w.2 8) (w.2 4 v) i) nv)) ([.ref (h 0), .int (nI i)] : List Value).toArray s 0 0 (fun _ => False)) (F0 m 4 ls []) := by
    intro n4m
    induction n4m with
    | zero => intro k y hk hy hmu ls hl; exact absurd hmu (Nat.not_lt_zero _)
    | succ n4m ih4 =>
      intro k y hk hy hmu ls hl
      refine lv_iload_n hx hb dX3_lifeOf_4 rfl (lv_at hl 3 rfl) ?_
      refine lv_aload_n hx hb dX3_lifeOf_5 rfl (lv_at hl 0 rfl) ?_
      refine va_get (D := gD G) (ci := 3) (v := .int (w.1 0)) (C := RX3) (T := TX3) (N := 9) hx hb hts hiX3 hown hK hP 0 rfl rfl 0 (by decide) k9 (fun _ h9 => h9) rfl dX3_lifeOf_6 ?_
      refine topE hnv ?_
      refine lv_icmp_ge (tgt := 39) hx hb dX3_lifeOf_9 (by decide) (fun c9 => ?_) (fun c9 => ?_)
      · skip
        have n9 : nv ≤ k := (nI_leI (a := nv) (b := k) (by omega) (by omega)).mp c9
        refine lv_iload_n hx hb dX3_lifeOf_39 rfl (lv_at hl 2 rfl) ?_
        exact W.iret (v := y) hx hb hr (fun t ht hW => ⟨y, rfl, by rw [hy, show k = nv by omega], ht⟩) (fun _ h9 => by cases h9) dX3_lifeOf_40
      · skip
        have n9 : ¬ (nv ≤ k) := fun q9 => c9 ((nI_leI (a := nv) (b := k) (by omega) (by omega)).mpr q9)
        refine lv_aload_n hx hb dX3_lifeOf_12 rfl (lv_at hl 0 rfl) ?_
        refine lv_iload_n hx hb dX3_lifeOf_13 rfl (lv_at hl 1 rfl) ?_
        refine lv_aload_n hx hb dX3_lifeOf_14 rfl (lv_at hl 0 rfl) ?_
        refine va_get (D := gD G) (ci := 3) (v := .ref (h 4)) (C := RX3) (T := TX3) (N := 9) hx hb hts hiX3 hown hK hP 0 rfl rfl 4 (by decide) k25 (fun _ h9 => h9) rfl dX3_lifeOf_15 ?_
        refine lv_iload_n hx hb dX3_lifeOf_18 rfl (lv_at hl 3 rfl) ?_
        refine ialdN (f := w.2 4) (n := 24) (k := k) hx hb hK hP 4 rfl rfl (by omega) dX3_lifeOf_19 ?_
        refine cRi (w := wv G h w) (As := [.int (nI i), .int ((w.2 4) k)]) (rest := []) ⟨hx, hb, hml, hown, hts⟩ (mt_X3_stands l G h w i ((w.2 4) k) (by first | assumption | omega)) (cwV 2 hts gX3_lifeOf_X3_stands rfl rfl rfl ⟨rfl, hd_X3_stands⟩ ⟨Nat.le_of_ble_eq_true rfl, Nat.le_of_ble_eq_true rfl⟩) hK hN hP 0 3 rfl rfl rfl hl.1 rfl (Nat.le_of_ble_eq_true rfl) ⟨Nat.zero_le _, Nat.zero_le _⟩ dX3_lifeOf_20 (fun r20 hw20 => ?_)
        rcases hw20 with ⟨rfl, hy20⟩ | ⟨rfl, hn20⟩
        · skip
          refine lv_if_eq (tgt := 33) hx hb dX3_lifeOf_23 (by decide) (fun c9 => absurd c9 (by decide)) (fun _ => ?_)
          refine lv_iload_n hx hb dX3_lifeOf_26 rfl (lv_at hl 2 rfl) ?_
          refine lv_iload_n hx hb dX3_lifeOf_27 rfl (lv_at hl 3 rfl) ?_
          refine cSi (As := [.int (nI k)]) (rest := [.int y]) ⟨hx, hb, hml, hown, hts⟩ (mt_X3_onlyF l (nI k)) (va_cwS 1 hts gX3_lifeOf_X3_only rfl rfl rfl hd_X3_only ⟨Nat.le_of_ble_eq_true rfl, Nat.le_of_ble_eq_true rfl⟩) rfl hl.1 rfl (Nat.le_of_ble_eq_true rfl) ⟨Nat.zero_le _, Nat.zero_le _⟩ dX3_lifeOf_28 (fun r28 hw28 => ?_)
          obtain rfl := hw28
          refine topE (onl_n (v := k) (by omega)) ?_
          refine lv_ior hx hb dX3_lifeOf_31 ?_
          refine lv_istore_n (lv' := [(2, .int (y ||| ((1 : Int32) <<< (nI k &&& 31)))), (0, .ref (h 0)), (1, .int (nI i)), (3, .int (nI k))]) hx hb dX3_lifeOf_32 rfl hl (by decide) rfl (fun ls hl => ?_)
          refine lv_iinc (v := nI (k + 1)) (lv' := [(3, .int (nI (k + 1))), (2, .int (y ||| ((1 : Int32) <<< (nI k &&& 31)))), (0, .ref (h 0)), (1, .int (nI i))]) hx hb dX3_lifeOf_33 hl (k := 3) rfl (nI_1 k) (by decide) rfl (fun ls hl => ?_)
          refine lv_goto (tgt := 4) hx hb dX3_lifeOf_36 (by decide) ?_
          exact ih4 (k + 1) (y ||| ((1 : Int32) <<< (nI k &&& 31))) (by first | assumption | omega) (by first | (rw [lifF, if_pos (by assumption), ← hy]) | (rw [lifF, if_neg (by simp_all), ← hy, Int32.or_zero])) (by omega) ls (lv_sub hl [2, 3, 1, 0] rfl)
        · skip
          refine lv_if_eq (tgt := 33) hx hb dX3_lifeOf_23 (by decide) (fun _ => ?_) (fun c9 => absurd (by decide) c9)
          refine lv_iinc (v := nI (k + 1)) (lv' := [(3, .int (nI (k + 1))), (0, .ref (h 0)), (1, .int (nI i)), (2, .int y)]) hx hb dX3_lifeOf_33 hl (k := 3) rfl (nI_1 k) (by decide) rfl (fun ls hl => ?_)
          refine lv_goto (tgt := 4) hx hb dX3_lifeOf_36 (by decide) ?_
          exact ih4 (k + 1) y (by first | assumption | omega) (by first | (rw [lifF, if_pos (by assumption), ← hy]) | (rw [lifF, if_neg (by simp_all), ← hy, Int32.or_zero])) (by omega) ls (lv_sub hl [1, 2, 3, 0] rfl)
  exact LP4 (nv - 0 + 1) 0 (nI 0) (by first | assumption | omega) (rfl) (Nat.lt_succ_self _) ls (lv_sub hl [2, 3, 1, 0] rfl)
set_option maxHeartbeats 1000000 in
set_option maxRecDepth 100000 in
theorem mt_X3_pictureOfF (l : Launch) (G : gG) (h : Nat → Nat) (w : oS) (nv : Nat) (i : Nat) (hnv : w.1 0 = nI nv) (hnv24 : nv ≤ 24) (hi : i < 120) : Met l yX3_pictureOf wsX3_pictureOf ({ frames := 2, cells := 0, slots := 0, locals := 45 }) (preR G (wv G h w) [.ref (h 0), .int (nI i)]) (vp_Sl (fun r : Int64 => r = (w.2 6 i).toInt64 + 256 * (w.2 7 i).toInt64 + 65536 * (lifF (fun v => sdb (w.2 7) (w.2 8) (w.2 4 v) i) nv).toInt64)) 0 0 (fun _ => False) := by
  refine Met.ofW (cc := cX3_pictureOf) (maxL := 2) (ret := (some .long)) (by decide) rfl ?_
  intro p e s m args below meth c s₁ B hml hv
  obtain ⟨ha, hP, hK, hN⟩ := hv
  subst ha
  have hx := B.exec
  have hb := B.bytes
  have hr := B.returns
  have hts := atoms_spec (ws := wsX3_pictureOf) B.pre
  have hown : s.vm.findClass RX3 = some m.cls := findClass_of_methodNamed B.named
  have hlocks := B.notSynchronized
  have hiX3 : ∀ w ∈ wsX30, w ∈ wsX3_pictureOf := fun w h9 => List.mem_cons_of_mem _ (List.mem_append_right _ (h9))
  have k31 := hts (.fieldLink RX3 31 "WovenHistory$Weave" "sign" "[I") (List.mem_of_getElem? (i := 1) rfl)
  have k34 := hts (.fieldLink RX3 34 "WovenHistory$Weave" "brought" "[I") (List.mem_of_getElem? (i := 3) rfl)
  have hl := lv_entry ([.ref (h 0), .int (nI i)]) (n := 2) (Nat.le_of_ble_eq_true rfl)
  rw [lg_entry_eq]
  generalize (lg_sl ([.ref (h 0), .int (nI i)]) ++ List.replicate (2 - (lg_sl ([.ref (h 0), .int (nI i)])).length) Slot.unset).toArray = ls at hl ⊢
  have hl : lv_has ls 2 [(0, .ref (h 0)), (1, .int (nI i))] := hl
  refine lv_aload_n hx hb dX3_pictureOf_0 rfl (lv_at hl 0 rfl) ?_
  refine va_get (D := gD G) (ci := 3) (v := .ref (h 6)) (C := RX3) (T := TX3) (N := 9) hx hb hts hiX3 hown hK hP 0 rfl rfl 6 (by decide) k31 (fun _ h9 => h9) rfl dX3_pictureOf_1 ?_
  refine lv_iload_n hx hb dX3_pictureOf_4 rfl (lv_at hl 1 rfl) ?_
  refine ialdN (f := w.2 6) (n := 120) (k := i) hx hb hK hP 5 rfl rfl (by omega) dX3_pictureOf_5 ?_
  refine lv_i2l (v := ((w.2 6) i).toInt64) hx hb dX3_pictureOf_6 rfl ?_
  refine lv_ldc2 (v := 256) hx hb hown (hts (.constantLong RX3 99 (256)) (List.mem_of_getElem? (i := 2) rfl)) dX3_pictureOf_7 ?_
  refine lv_aload_n hx hb dX3_pictureOf_10 rfl (lv_at hl 0 rfl) ?_
  refine va_get (D := gD G) (ci := 3) (v := .ref (h 7)) (C := RX3) (T := TX3) (N := 9) hx hb hts hiX3 hown hK hP 0 rfl rfl 7 (by decide) k34 (fun _ h9 => h9) rfl dX3_pictureOf_11 ?_
  refine lv_iload_n hx hb dX3_pictureOf_14 rfl (lv_at hl 1 rfl) ?_
  refine ialdN (f := w.2 7) (n := 120) (k := i) hx hb hK hP 6 rfl rfl (by omega) dX3_pictureOf_15 ?_
  refine lv_i2l (v := ((w.2 7) i).toInt64) hx hb dX3_pictureOf_16 rfl ?_
  refine lv_lmul hx hb dX3_pictureOf_17 ?_
  refine lv_ladd hx hb dX3_pictureOf_18 ?_
  refine lv_ldc2 (v := 65536) hx hb hown (hts (.constantLong RX3 101 (65536)) (List.mem_of_getElem? (i := 4) rfl)) dX3_pictureOf_19 ?_
  refine lv_aload_n hx hb dX3_pictureOf_22 rfl (lv_at hl 0 rfl) ?_
  refine lv_iload_n hx hb dX3_pictureOf_23 rfl (lv_at hl 1 rfl) ?_
  refine cRi (w := wv G h w) (As := [.int (nI i)]) (rest := [.long 65536, .long ((((w.2 6) i).toInt64) + (256 * (((w.2 7) i).toInt64)))]) ⟨hx, hb, hml, hown, hts⟩ (mt_X3_lifeOfF l G h w nv i (hnv) (by first | assumption | omega) (by first | assumption | omega)) (cwV 1 hts gX3_pictureOf_X3_lifeOf rfl rfl rfl ⟨rfl, hd_X3_lifeOf⟩ ⟨Nat.le_of_ble_eq_true rfl, Nat.le_of_ble_eq_true rfl⟩) hK hN hP 0 3 rfl rfl rfl hl.1 rfl (Nat.le_of_ble_eq_true rfl) ⟨Nat.zero_le _, Nat.zero_le _⟩ dX3_pictureOf_24 (fun r24 hw24 => ?_)
  obtain rfl := hw24
  refine lv_i2l (v := (lifF (fun v => sdb (w.2 7) (w.2 8) (w.2 4 v) i) nv).toInt64) hx hb dX3_pictureOf_27 rfl ?_
  refine lv_lmul hx hb dX3_pictureOf_28 ?_
  refine lv_ladd hx hb dX3_pictureOf_29 ?_
  exact W.lret (v := ((((w.2 6) i).toInt64) + (256 * (((w.2 7) i).toInt64))) + (65536 * ((lifF (fun v => sdb (w.2 7) (w.2 8) (w.2 4 v) i) nv).toInt64))) hx hb hr (fun t ht hW => ⟨((((w.2 6) i).toInt64) + (256 * (((w.2 7) i).toInt64))) + (65536 * ((lifF (fun v => sdb (w.2 7) (w.2 8) (w.2 4 v) i) nv).toInt64)), rfl, rfl, ht⟩) (fun _ h9 => by cases h9) dX3_pictureOf_30
set_option maxHeartbeats 1000000 in
set_option maxRecDepth 100000 in
theorem mt_X3_changesOfN (l : Launch) (G : gG) (h : Nat → Nat) (w : oS) (j : Nat) (hj24 : j < 24) : Met l yX3_changesOf wsX3_changesOf ({ frames := 0, cells := 0, slots := 0, locals := 0 }) (preR G (wv G h w) [.ref (h 0), .int (nI j)]) (vp_Si (fun r : Int32 => r = w.2 4 j)) 0 0 (fun _ => False) := by
  refine Met.ofW (cc := cX3_changesOf) (maxL := 2) (ret := (some .int)) (by decide) rfl ?_
  intro p e s m args below meth c s₁ B hml hv
  obtain ⟨ha, hP, hK, hN⟩ := hv
  subst ha
  have hx := B.exec
  have hb := B.bytes
  have hr := B.returns
  have hts := atoms_spec (ws := wsX3_changesOf) B.pre
  have hown : s.vm.findClass RX3 = some m.cls := findClass_of_methodNamed B.named
  have hlocks := B.notSynchronized
  have hiX3 : ∀ w ∈ wsX30, w ∈ wsX3_changesOf := fun w h9 => List.mem_cons_of_mem _ (List.mem_append_right _ (h9))
  have k25 := hts (.fieldLink RX3 25 "WovenHistory$Weave" "changes" "[I") (List.mem_of_getElem? (i := 1) rfl)
  have hl := lv_entry ([.ref (h 0), .int (nI j)]) (n := 2) (Nat.le_of_ble_eq_true rfl)
  rw [lg_entry_eq]
  generalize (lg_sl ([.ref (h 0), .int (nI j)]) ++ List.replicate (2 - (lg_sl ([.ref (h 0), .int (nI j)])).length) Slot.unset).toArray = ls at hl ⊢
  have hl : lv_has ls 2 [(0, .ref (h 0)), (1, .int (nI j))] := hl
  refine lv_iload_n hx hb dX3_changesOf_0 rfl (lv_at hl 1 rfl) ?_
  refine lv_if_lt (tgt := 19) hx hb dX3_changesOf_1 (by decide) (fun c9 => absurd c9 (nI_pos (by omega))) (fun _ => ?_)
  refine lv_iload_n hx hb dX3_changesOf_4 rfl (lv_at hl 1 rfl) ?_
  refine lv_bipush (v := nI 24) hx hb dX3_changesOf_5 (by decide) ?_
  refine lv_icmp_ge (tgt := 19) hx hb dX3_changesOf_7 (by decide) (fun c7 => ?_) (fun c7 => ?_)
  · skip
    have n7 : 24 ≤ j := (nI_leI (a := 24) (b := j) (by omega) (by omega)).mp c7
    omega
  · skip
    have n7 : ¬ (24 ≤ j) := fun q9 => c7 ((nI_leI (a := 24) (b := j) (by omega) (by omega)).mpr q9)
    refine lv_aload_n hx hb dX3_changesOf_10 rfl (lv_at hl 0 rfl) ?_
    refine va_get (D := gD G) (ci := 3) (v := .ref (h 4)) (C := RX3) (T := TX3) (N := 9) hx hb hts hiX3 hown hK hP 0 rfl rfl 4 (by decide) k25 (fun _ h9 => h9) rfl dX3_changesOf_11 ?_
    refine lv_iload_n hx hb dX3_changesOf_14 rfl (lv_at hl 1 rfl) ?_
    refine ialdN (f := w.2 4) (n := 24) (k := j) hx hb hK hP 4 rfl rfl (by omega) dX3_changesOf_15 ?_
    refine lv_goto (tgt := 20) hx hb dX3_changesOf_16 (by decide) ?_
    exact W.iret (v := (w.2 4) j) hx hb hr (fun t ht hW => ⟨(w.2 4) j, rfl, rfl, ht⟩) (fun _ h9 => by cases h9) dX3_changesOf_20
set_option maxHeartbeats 1000000 in
set_option maxRecDepth 100000 in
theorem mt_X3_lineageOfF (l : Launch) (G : gG) (h : Nat → Nat) (w : oS) (nv : Nat) (j : Nat) (hnv : w.1 0 = nI nv) (hnv24 : nv ≤ 24) (hj : j < nv) (hpw : parOK (w.2 1) nv) : Met l yX3_lineageOf wsX3_lineageOf ({ frames := 1, cells := 0, slots := 0, locals := 20 }) (preR G (wv G h w) [.ref (h 0), .int (nI j)]) (vp_Si (fun r : Int32 => r = eldV (w.2 1) (nI j))) 0 0 (fun _ => False) := by
  refine Met.ofW (cc := cX3_lineageOf) (maxL := 5) (ret := (some .int)) (by decide) rfl ?_
  intro p e s m args below meth c s₁ B hml hv
  obtain ⟨ha, hP, hK, hN⟩ := hv
  subst ha
  have hx := B.exec
  have hb := B.bytes
  have hr := B.returns
  have hts := atoms_spec (ws := wsX3_lineageOf) B.pre
  have hown : s.vm.findClass RX3 = some m.cls := findClass_of_methodNamed B.named
  have hlocks := B.notSynchronized
  have hiX3 : ∀ w ∈ wsX30, w ∈ wsX3_lineageOf := fun w h9 => List.mem_cons_of_mem _ (List.mem_append_right _ (h9))
  have k9 := hts (.fieldLink RX3 9 "WovenHistory$Weave" "versions" "I") (List.mem_of_getElem? (i := 1) rfl)
  have k15 := hts (.fieldLink RX3 15 "WovenHistory$Weave" "from" "[I") (List.mem_of_getElem? (i := 2) rfl)
  have hl := lv_entry ([.ref (h 0), .int (nI j)]) (n := 5) (Nat.le_of_ble_eq_true rfl)
  rw [lg_entry_eq]
  generalize (lg_sl ([.ref (h 0), .int (nI j)]) ++ List.replicate (5 - (lg_sl ([.ref (h 0), .int (nI j)])).length) Slot.unset).toArray = ls at hl ⊢
  have hl : lv_has ls 5 [(0, .ref (h 0)), (1, .int (nI j))] := hl
  refine lv_iconst (v := nI 0) hx hb dX3_lineageOf_0 (by decide) ?_
  refine lv_istore_n (lv' := [(2, .int (nI 0)), (0, .ref (h 0)), (1, .int (nI j))]) hx hb dX3_lineageOf_1 rfl hl (by decide) rfl (fun ls hl => ?_)
  refine lv_iload_n hx hb dX3_lineageOf_2 rfl (lv_at hl 2 rfl) ?_
  refine lv_istore_n (lv' := [(3, .int (nI j)), (2, .int (nI 0)), (0, .ref (h 0)), (1, .int (nI j))]) hx hb dX3_lineageOf_3 rfl hl (by decide) rfl (fun ls hl => ?_)
  refine lv_aload_n hx hb dX3_lineageOf_4 rfl (lv_at hl 2 rfl) ?_
  refine va_get (D := gD G) (ci := 3) (v := .int (w.1 0)) (C := RX3) (T := TX3) (N := 9) hx hb hts hiX3 hown hK hP 0 rfl rfl 0 (by decide) k9 (fun _ h9 => h9) rfl dX3_lineageOf_5 ?_
  refine topE hnv ?_
  refine lv_iconst (v := nI 1) hx hb dX3_lineageOf_8 (by decide) ?_
  refine lv_isub hx hb dX3_lineageOf_9 ?_
  refine topE (y := nI nv + (-1)) (nI_subm nv) ?_
  refine lv_istore (lv' := [(4, .int (nI nv + (-1))), (3, .int (nI j)), (2, .int (nI 0)), (0, .ref (h 0)), (1, .int (nI j))]) hx hb dX3_lineageOf_10 hl (by decide) rfl (fun ls hl => ?_)
  have LP12 : ∀ (n12m : Nat), ∀ (kk : Nat) (y : Int32) (z : Int32) (hkk : kk ≤ nv) (hz : z = -1 ∨ ∃ t, t < kk ∧ z = nI t) (hyz : y ||| eldV (w.2 1) z = eldV (w.2 1) (nI j)), (kk < n12m) → ∀ (ls : Array Slot), lv_has ls 5 [(0, .ref (h 0)), (2, .int y), (3, .int z), (4, .int (nI kk + (-1)))] → W p l e (headSpec wsX3_lineageOf ({ frames := 1, cells := 0, slots := 0, locals := 20 })).room s m ([.ref (h 0), .int (nI j)] : List Value).toArray below meth c s.heap [] 0 0 (MQ below (vp_Si (fun r : Int32 => r = eldV (w.2 1) (nI j))) ([.ref (h 0), .int (nI j)] : List Value).toArray s 0 0 (fun _ => False)) (F0 m 12 ls []) := by
    intro n12m
    induction n12m with
    | zero => intro kk y z hkk hz hyz hmu ls hl; exact absurd hmu (Nat.not_lt_zero _)
    | succ n12m ih12 =>
      intro kk y z hkk hz hyz hmu ls hl
      refine lv_iload hx hb dX3_lineageOf_12 (lv_at hl 3 rfl) ?_
      refine lv_if_lt (tgt := 45) hx hb dX3_lineageOf_14 (by decide) (fun c14 => ?_) (fun c14 => ?_)
      · skip
        have ek : kk = 0 := nI_m1neg (by omega) c14
        subst ek
        refine lv_iload_n hx hb dX3_lineageOf_45 rfl (lv_at hl 1 rfl) ?_
        exact W.iret (v := y) hx hb hr (fun t ht hW => ⟨y, rfl, by rcases hz with q9 | ⟨t9, ht9, -⟩; (rw [← hyz, q9, eldV_m1, Int32.or_zero]); exact absurd ht9 (Nat.not_lt_zero _), ht⟩) (fun _ h9 => by cases h9) dX3_lineageOf_46
      · skip
        obtain ⟨k14, rfl⟩ := nI_m1pos c14
        rw [pk_m1] at hl
        refine lv_iload hx hb dX3_lineageOf_17 (lv_at hl 3 rfl) ?_
        refine lv_iload_n hx hb dX3_lineageOf_19 rfl (lv_at hl 2 rfl) ?_
        refine lv_icmp_ne (tgt := 39) hx hb dX3_lineageOf_20 (by decide) (fun c20 => ?_) (fun c20 => ?_)
        · skip
          refine lv_iinc (v := (nI k14) + (-1)) (lv' := [(4, .int ((nI k14) + (-1))), (0, .ref (h 0)), (2, .int y), (3, .int z)]) hx hb dX3_lineageOf_39 hl (k := 3) rfl (rfl) (by decide) rfl (fun ls hl => ?_)
          refine lv_goto (tgt := 12) hx hb dX3_lineageOf_42 (by decide) ?_
          exact ih12 k14 y z (by first | assumption | omega) (by first | exact (hpw k14 (by omega)) | (rcases hz with q9 | ⟨t9, ht9, q9⟩; exact Or.inl q9; exact Or.inr ⟨t9, by rcases Nat.lt_or_ge t9 k14 with q8 | q8; exact q8; exact absurd (by rw [q9, show t9 = k14 by omega]) c20, q9⟩)) (by first | (rw [← hyz, ← c20, eldV_s (by omega) (hpw.le (by omega)), Int32.or_assoc]) | exact hyz) (by omega) ls (lv_sub hl [1, 2, 3, 0] rfl)
        · skip
          refine lv_iload_n hx hb dX3_lineageOf_23 rfl (lv_at hl 1 rfl) ?_
          refine lv_iload hx hb dX3_lineageOf_24 (lv_at hl 3 rfl) ?_
          refine cSi (As := [.int (nI k14)]) (rest := [.int y]) ⟨hx, hb, hml, hown, hts⟩ (mt_X3_onlyF l (nI k14)) (va_cwS 1 hts gX3_lineageOf_X3_only rfl rfl rfl hd_X3_only ⟨Nat.le_of_ble_eq_true rfl, Nat.le_of_ble_eq_true rfl⟩) rfl hl.1 rfl (Nat.le_of_ble_eq_true rfl) ⟨Nat.zero_le _, Nat.zero_le _⟩ dX3_lineageOf_26 (fun r26 hw26 => ?_)
          obtain rfl := hw26
          refine topE (onl_n (v := k14) (by omega)) ?_
          refine lv_ior hx hb dX3_lineageOf_29 ?_
          refine lv_istore_n (lv' := [(2, .int (y ||| ((1 : Int32) <<< (nI k14 &&& 31)))), (0, .ref (h 0)), (3, .int z), (4, .int (nI k14))]) hx hb dX3_lineageOf_30 rfl hl (by decide) rfl (fun ls hl => ?_)
          refine lv_aload_n hx hb dX3_lineageOf_31 rfl (lv_at hl 1 rfl) ?_
          refine va_get (D := gD G) (ci := 3) (v := .ref (h 1)) (C := RX3) (T := TX3) (N := 9) hx hb hts hiX3 hown hK hP 0 rfl rfl 1 (by decide) k15 (fun _ h9 => h9) rfl dX3_lineageOf_32 ?_
          refine lv_iload hx hb dX3_lineageOf_35 (lv_at hl 3 rfl) ?_
          refine ialdN (f := w.2 1) (n := 24) (k := k14) hx hb hK hP 1 rfl rfl (by omega) dX3_lineageOf_37 ?_
          refine lv_istore_n (lv' := [(3, .int ((w.2 1) k14)), (2, .int (y ||| ((1 : Int32) <<< (nI k14 &&& 31)))), (0, .ref (h 0)), (4, .int (nI k14))]) hx hb dX3_lineageOf_38 rfl hl (by decide) rfl (fun ls hl => ?_)
          refine lv_iinc (v := (nI k14) + (-1)) (lv' := [(4, .int ((nI k14) + (-1))), (3, .int ((w.2 1) k14)), (2, .int (y ||| ((1 : Int32) <<< (nI k14 &&& 31)))), (0, .ref (h 0))]) hx hb dX3_lineageOf_39 hl (k := 3) rfl (rfl) (by decide) rfl (fun ls hl => ?_)
          refine lv_goto (tgt := 12) hx hb dX3_lineageOf_42 (by decide) ?_
          exact ih12 k14 (y ||| ((1 : Int32) <<< (nI k14 &&& 31))) ((w.2 1) k14) (by first | assumption | omega) (by first | exact (hpw k14 (by omega)) | (rcases hz with q9 | ⟨t9, ht9, q9⟩; exact Or.inl q9; exact Or.inr ⟨t9, by rcases Nat.lt_or_ge t9 k14 with q8 | q8; exact q8; exact absurd (by rw [q9, show t9 = k14 by omega]) c20, q9⟩)) (by first | (rw [← hyz, ← c20, eldV_s (by omega) (hpw.le (by omega)), Int32.or_assoc]) | exact hyz) (by omega) ls (lv_sub hl [3, 2, 1, 0] rfl)
  exact LP12 (nv + 1) nv (nI 0) (nI j) (by first | assumption | omega) (Or.inr ⟨j, by omega, rfl⟩) (Int32.zero_or) (Nat.lt_succ_self _) ls (lv_sub hl [3, 2, 1, 0] rfl)
theorem chOK_23 {w : oS} {nv : Nat} {x y : Int32} (h : chOK w nv) (hp : parOK (w.2 1) nv) (hv : nv ≤ 24) {p q : Nat} (hq : (p = 3 ∧ q = 2) ∨ (p = 2 ∧ q = 3)) : chOK (oA (oA w p (upd (w.2 p) nv x)) q (upd (w.2 q) nv y)) nv := by
  rcases hq with ⟨rfl, rfl⟩ | ⟨rfl, rfl⟩
  · intro i hi
    show w.2 4 i = chV (w.2 1) (upd (w.2 2) nv y) (upd (w.2 3) nv x) (nI i)
    rw [h i hi]
    exact chV_c (by omega) (hp.le (by omega)) (fun j hj => ⟨rfl, (pk_un (by omega)).symm, (pk_un (by omega)).symm⟩)
  · intro i hi
    show w.2 4 i = chV (w.2 1) (upd (w.2 2) nv x) (upd (w.2 3) nv y) (nI i)
    rw [h i hi]
    exact chV_c (by omega) (hp.le (by omega)) (fun j hj => ⟨rfl, (pk_un (by omega)).symm, (pk_un (by omega)).symm⟩)

set_option maxHeartbeats 1000000 in
set_option maxRecDepth 100000 in
theorem mt_X3_includeInNextF (l : Launch) (G : gG) (h : Nat → Nat) (sz : Nat) (w : oS) (nv : Nat) (v1 : Nat) (hnv : w.1 0 = nI nv) (hnv23 : nv < 24) (hv1 : v1 < 24) (hpn : w.2 1 nv = -1 ∨ ∃ t, t < nv ∧ w.2 1 nv = nI t) (hpw : parOK (w.2 1) nv) (hch : chOK w nv) : Met l yX3_includeInNext wsX3_includeInNext ({ frames := 2, cells := 0, slots := 0, locals := 42 }) (preW G (wv G h w) sz [.ref (h 0), .int (nI v1)]) (va_Qv (fun (v : oS) => v = stW (oA (oA w 3 (upd (w.2 3) nv (w.2 3 nv &&& (b1 v1 ^^^ (-1))))) 2 (upd (w.2 2) nv (w.2 2 nv ||| b1 v1))) nv) (fun v t => PP G (wv G h v) t.heap) (va_A (wv G h w) sz)) 0 0 (va_A (wv G h w) sz) := by
  refine Met.ofW (cc := cX3_includeInNext) (maxL := 2) (ret := none) (by decide) rfl ?_
  intro p e s m args below meth c s₁ B hml hv
  obtain ⟨ha, hsz, hP, hK, hN, hD0⟩ := hv
  subst ha
  have hx := B.exec
  have hb := B.bytes
  have hr := B.returns
  have hts := atoms_spec (ws := wsX3_includeInNext) B.pre
  have hown : s.vm.findClass RX3 = some m.cls := findClass_of_methodNamed B.named
  have hlocks := B.notSynchronized
  subst hsz
  have hD := hD0.self (sz := s.heap.size)
  generalize hAe : va_A (wv G h w) s.heap.size = A at hD ⊢
  have hA : ∀ q : Nat, s.heap.size ≤ q → A q := fun q h => by rw [← hAe]; exact Or.inr h
  clear hAe hD0
  have hS : va_S A s.heap s.heap [] := va_S.rf
  have hiX3 : ∀ w ∈ wsX30, w ∈ wsX3_includeInNext := fun w h9 => List.mem_cons_of_mem _ (List.mem_append_right _ (h9))
  have k9 := hts (.fieldLink RX3 9 "WovenHistory$Weave" "versions" "I") (List.mem_of_getElem? (i := 1) rfl)
  have k22 := hts (.fieldLink RX3 22 "WovenHistory$Weave" "excluded" "[I") (List.mem_of_getElem? (i := 2) rfl)
  have k19 := hts (.fieldLink RX3 19 "WovenHistory$Weave" "included" "[I") (List.mem_of_getElem? (i := 3) rfl)
  have hl := lv_entry ([.ref (h 0), .int (nI v1)]) (n := 2) (Nat.le_of_ble_eq_true rfl)
  rw [lg_entry_eq]
  generalize (lg_sl ([.ref (h 0), .int (nI v1)]) ++ List.replicate (2 - (lg_sl ([.ref (h 0), .int (nI v1)])).length) Slot.unset).toArray = ls at hl ⊢
  have hl : lv_has ls 2 [(0, .ref (h 0)), (1, .int (nI v1))] := hl
  refine lv_aload_n hx hb dX3_includeInNext_0 rfl (lv_at hl 0 rfl) ?_
  refine va_get (D := gD G) (ci := 3) (v := .int (w.1 0)) (C := RX3) (T := TX3) (N := 9) hx hb hts hiX3 hown hK hP 0 rfl rfl 0 (by decide) k9 (fun _ h9 => h9) rfl dX3_includeInNext_1 ?_
  refine topE hnv ?_
  refine lv_bipush (v := nI 24) hx hb dX3_includeInNext_4 (by decide) ?_
  refine lv_icmp_ge (tgt := 47) hx hb dX3_includeInNext_6 (by decide) (fun c6 => ?_) (fun c6 => ?_)
  · skip
    have n6 : 24 ≤ nv := (nI_leI (a := 24) (b := nv) (by omega) (by omega)).mp c6
    omega
  · skip
    have n6 : ¬ (24 ≤ nv) := fun q9 => c6 ((nI_leI (a := 24) (b := nv) (by omega) (by omega)).mpr q9)
    refine lv_aload_n hx hb dX3_includeInNext_9 rfl (lv_at hl 0 rfl) ?_
    refine va_get (D := gD G) (ci := 3) (v := .ref (h 3)) (C := RX3) (T := TX3) (N := 9) hx hb hts hiX3 hown hK hP 0 rfl rfl 3 (by decide) k22 (fun _ h9 => h9) rfl dX3_includeInNext_10 ?_
    refine lv_aload_n hx hb dX3_includeInNext_13 rfl (lv_at hl 0 rfl) ?_
    refine va_get (D := gD G) (ci := 3) (v := .int (w.1 0)) (C := RX3) (T := TX3) (N := 9) hx hb hts hiX3 hown hK hP 0 rfl rfl 0 (by decide) k9 (fun _ h9 => h9) rfl dX3_includeInNext_14 ?_
    refine topE hnv ?_
    refine lv_dup2_11 hx hb dX3_includeInNext_17 rfl rfl ?_
    refine ialdN (f := w.2 3) (n := 24) (k := nv) hx hb hK hP 3 rfl rfl (by omega) dX3_includeInNext_18 ?_
    refine lv_iload_n hx hb dX3_includeInNext_19 rfl (lv_at hl 1 rfl) ?_
    refine cSi (As := [.int (nI v1)]) (rest := [.int ((w.2 3) nv), .int (nI nv), .ref (h 3)]) ⟨hx, hb, hml, hown, hts⟩ (mt_X3_onlyF l (nI v1)) (va_cwS 1 hts gX3_includeInNext_X3_only rfl rfl rfl hd_X3_only ⟨Nat.le_of_ble_eq_true rfl, Nat.le_of_ble_eq_true rfl⟩) rfl hl.1 rfl (Nat.le_of_ble_eq_true rfl) ⟨Nat.zero_le _, Nat.zero_le _⟩ dX3_includeInNext_20 (fun r20 hw20 => ?_)
    obtain rfl := hw20
    refine topE (onl_n (v := v1) (by omega)) ?_
    refine lv_iconst (v := (-1 : Int32)) hx hb dX3_includeInNext_23 (by decide) ?_
    refine lv_ixor hx hb dX3_includeInNext_24 ?_
    refine lv_iand hx hb dX3_includeInNext_25 ?_
    refine iastN (f := w.2 3) (n := 24) (k := nv) hx hb hK hP hD hS 3 rfl rfl (by omega) dX3_includeInNext_26 (fun H locs hP hD hS => ?_)
    have hP : PP G (wv G h (oA w 3 (upd (w.2 3) nv (((w.2 3) nv) &&& (((1 : Int32) <<< (nI v1 &&& 31)) ^^^ (-1 : Int32)))))) H := hP
    have hD : va_D A (wv G h (oA w 3 (upd (w.2 3) nv (((w.2 3) nv) &&& (((1 : Int32) <<< (nI v1 &&& 31)) ^^^ (-1 : Int32)))))) := hD
    refine lv_aload_n hx hb dX3_includeInNext_27 rfl (lv_at hl 0 rfl) ?_
    refine va_get (D := gD G) (ci := 3) (v := .ref (h 2)) (C := RX3) (T := TX3) (N := 9) hx hb hts hiX3 hown hK hP 0 rfl rfl 2 (by decide) k19 (fun _ h9 => h9) rfl dX3_includeInNext_28 ?_
    refine lv_aload_n hx hb dX3_includeInNext_31 rfl (lv_at hl 0 rfl) ?_
    refine va_get (D := gD G) (ci := 3) (v := .int (w.1 0)) (C := RX3) (T := TX3) (N := 9) hx hb hts hiX3 hown hK hP 0 rfl rfl 0 (by decide) k9 (fun _ h9 => h9) rfl dX3_includeInNext_32 ?_
    refine topE hnv ?_
    refine lv_dup2_11 hx hb dX3_includeInNext_35 rfl rfl ?_
    refine ialdN (f := w.2 2) (n := 24) (k := nv) hx hb hK hP 2 rfl rfl (by omega) dX3_includeInNext_36 ?_
    refine lv_iload_n hx hb dX3_includeInNext_37 rfl (lv_at hl 1 rfl) ?_
    refine cSi (As := [.int (nI v1)]) (rest := [.int ((w.2 2) nv), .int (nI nv), .ref (h 2)]) ⟨hx, hb, hml, hown, hts⟩ (mt_X3_onlyF l (nI v1)) (va_cwS 1 hts gX3_includeInNext_X3_only rfl rfl rfl hd_X3_only ⟨Nat.le_of_ble_eq_true rfl, Nat.le_of_ble_eq_true rfl⟩) rfl hl.1 rfl (Nat.le_of_ble_eq_true rfl) ⟨Nat.zero_le _, Nat.zero_le _⟩ dX3_includeInNext_38 (fun r38 hw38 => ?_)
    obtain rfl := hw38
    refine topE (onl_n (v := v1) (by omega)) ?_
    refine lv_ior hx hb dX3_includeInNext_41 ?_
    refine iastN (f := w.2 2) (n := 24) (k := nv) hx hb hK hP hD hS 2 rfl rfl (by omega) dX3_includeInNext_42 (fun H locs hP hD hS => ?_)
    have hP : PP G (wv G h (oA (oA w 3 (upd (w.2 3) nv (((w.2 3) nv) &&& (((1 : Int32) <<< (nI v1 &&& 31)) ^^^ (-1 : Int32))))) 2 (upd (w.2 2) nv (((w.2 2) nv) ||| ((1 : Int32) <<< (nI v1 &&& 31)))))) H := hP
    have hD : va_D A (wv G h (oA (oA w 3 (upd (w.2 3) nv (((w.2 3) nv) &&& (((1 : Int32) <<< (nI v1 &&& 31)) ^^^ (-1 : Int32))))) 2 (upd (w.2 2) nv (((w.2 2) nv) ||| ((1 : Int32) <<< (nI v1 &&& 31)))))) := hD
    refine lv_aload_n hx hb dX3_includeInNext_43 rfl (lv_at hl 0 rfl) ?_
    refine cXv (As := []) (rest := []) (S := oS) (wa := wv G h (oA (oA w 3 (upd (w.2 3) nv (((w.2 3) nv) &&& (((1 : Int32) <<< (nI v1 &&& 31)) ^^^ (-1 : Int32))))) 2 (upd (w.2 2) nv (((w.2 2) nv) ||| ((1 : Int32) <<< (nI v1 &&& 31)))))) (w1 := fun v => wv G h v) ⟨hx, hb, hml, hown, hts⟩ (mt_X3_settleNextF l G h _ (oA (oA w 3 (upd (w.2 3) nv (((w.2 3) nv) &&& (((1 : Int32) <<< (nI v1 &&& 31)) ^^^ (-1 : Int32))))) 2 (upd (w.2 2) nv (((w.2 2) nv) ||| ((1 : Int32) <<< (nI v1 &&& 31))))) nv (hnv) (by first | assumption | omega) (hpn) (chOK_23 hch hpw (by omega) (Or.inl ⟨rfl, rfl⟩))) (cwV 0 hts gX3_includeInNext_X3_settleNext rfl rfl rfl ⟨rfl, hd_X3_settleNext⟩ ⟨Nat.le_of_ble_eq_true rfl, Nat.le_of_ble_eq_true rfl⟩) hK hN hP hD hS hA (fun _ => rfl) 0 3 rfl rfl rfl hl.1 rfl (Nat.le_of_ble_eq_true rfl) ⟨Nat.zero_le _, Nat.zero_le _⟩ dX3_includeInNext_44 (fun u44 H locs hw44 hP hD hS => ?_)
    obtain rfl := hw44
    have hP : PP G (wv G h (stW (oA (oA w 3 (upd (w.2 3) nv (((w.2 3) nv) &&& (((1 : Int32) <<< (nI v1 &&& 31)) ^^^ (-1 : Int32))))) 2 (upd (w.2 2) nv (((w.2 2) nv) ||| ((1 : Int32) <<< (nI v1 &&& 31))))) nv)) H := hP
    have hD : va_D A (wv G h (stW (oA (oA w 3 (upd (w.2 3) nv (((w.2 3) nv) &&& (((1 : Int32) <<< (nI v1 &&& 31)) ^^^ (-1 : Int32))))) 2 (upd (w.2 2) nv (((w.2 2) nv) ||| ((1 : Int32) <<< (nI v1 &&& 31))))) nv)) := hD
    exact W.vret hx hb hr (fun t ht hW => ⟨⟨(stW (oA (oA w 3 (upd (w.2 3) nv (((w.2 3) nv) &&& (((1 : Int32) <<< (nI v1 &&& 31)) ^^^ (-1 : Int32))))) 2 (upd (w.2 2) nv (((w.2 2) nv) ||| ((1 : Int32) <<< (nI v1 &&& 31))))) nv), rfl, rfl, show PP G (wv G h (stW (oA (oA w 3 (upd (w.2 3) nv (((w.2 3) nv) &&& (((1 : Int32) <<< (nI v1 &&& 31)) ^^^ (-1 : Int32))))) 2 (upd (w.2 2) nv (((w.2 2) nv) ||| ((1 : Int32) <<< (nI v1 &&& 31))))) nv)) t.heap by rw [ht]; exact hP⟩, hS.F ht⟩) hS.2.2 dX3_includeInNext_47
set_option maxHeartbeats 1000000 in
set_option maxRecDepth 100000 in
theorem mt_X3_excludeFromNextF (l : Launch) (G : gG) (h : Nat → Nat) (sz : Nat) (w : oS) (nv : Nat) (v1 : Nat) (hnv : w.1 0 = nI nv) (hnv23 : nv < 24) (hv1 : v1 < 24) (hpn : w.2 1 nv = -1 ∨ ∃ t, t < nv ∧ w.2 1 nv = nI t) (hpw : parOK (w.2 1) nv) (hch : chOK w nv) : Met l yX3_excludeFromNext wsX3_excludeFromNext ({ frames := 2, cells := 0, slots := 0, locals := 42 }) (preW G (wv G h w) sz [.ref (h 0), .int (nI v1)]) (va_Qv (fun (v : oS) => v = stW (oA (oA w 2 (upd (w.2 2) nv (w.2 2 nv &&& (b1 v1 ^^^ (-1))))) 3 (upd (w.2 3) nv (w.2 3 nv ||| b1 v1))) nv) (fun v t => PP G (wv G h v) t.heap) (va_A (wv G h w) sz)) 0 0 (va_A (wv G h w) sz) := by
  refine Met.ofW (cc := cX3_excludeFromNext) (maxL := 2) (ret := none) (by decide) rfl ?_
  intro p e s m args below meth c s₁ B hml hv
  obtain ⟨ha, hsz, hP, hK, hN, hD0⟩ := hv
  subst ha
  have hx := B.exec
  have hb := B.bytes
  have hr := B.returns
  have hts := atoms_spec (ws := wsX3_excludeFromNext) B.pre
  have hown : s.vm.findClass RX3 = some m.cls := findClass_of_methodNamed B.named
  have hlocks := B.notSynchronized
  subst hsz
  have hD := hD0.self (sz := s.heap.size)
  generalize hAe : va_A (wv G h w) s.heap.size = A at hD ⊢
  have hA : ∀ q : Nat, s.heap.size ≤ q → A q := fun q h => by rw [← hAe]; exact Or.inr h
  clear hAe hD0
  have hS : va_S A s.heap s.heap [] := va_S.rf
  have hiX3 : ∀ w ∈ wsX30, w ∈ wsX3_excludeFromNext := fun w h9 => List.mem_cons_of_mem _ (List.mem_append_right _ (h9))
  have k9 := hts (.fieldLink RX3 9 "WovenHistory$Weave" "versions" "I") (List.mem_of_getElem? (i := 1) rfl)
  have k19 := hts (.fieldLink RX3 19 "WovenHistory$Weave" "included" "[I") (List.mem_of_getElem? (i := 2) rfl)
  have k22 := hts (.fieldLink RX3 22 "WovenHistory$Weave" "excluded" "[I") (List.mem_of_getElem? (i := 3) rfl)
  have hl := lv_entry ([.ref (h 0), .int (nI v1)]) (n := 2) (Nat.le_of_ble_eq_true rfl)
  rw [lg_entry_eq]
  generalize (lg_sl ([.ref (h 0), .int (nI v1)]) ++ List.replicate (2 - (lg_sl ([.ref (h 0), .int (nI v1)])).length) Slot.unset).toArray = ls at hl ⊢
  have hl : lv_has ls 2 [(0, .ref (h 0)), (1, .int (nI v1))] := hl
  refine lv_aload_n hx hb dX3_excludeFromNext_0 rfl (lv_at hl 0 rfl) ?_
  refine va_get (D := gD G) (ci := 3) (v := .int (w.1 0)) (C := RX3) (T := TX3) (N := 9) hx hb hts hiX3 hown hK hP 0 rfl rfl 0 (by decide) k9 (fun _ h9 => h9) rfl dX3_excludeFromNext_1 ?_
  refine topE hnv ?_
  refine lv_bipush (v := nI 24) hx hb dX3_excludeFromNext_4 (by decide) ?_
  refine lv_icmp_ge (tgt := 47) hx hb dX3_excludeFromNext_6 (by decide) (fun c6 => ?_) (fun c6 => ?_)
  · skip
    have n6 : 24 ≤ nv := (nI_leI (a := 24) (b := nv) (by omega) (by omega)).mp c6
    omega
  · skip
    have n6 : ¬ (24 ≤ nv) := fun q9 => c6 ((nI_leI (a := 24) (b := nv) (by omega) (by omega)).mpr q9)
    refine lv_aload_n hx hb dX3_excludeFromNext_9 rfl (lv_at hl 0 rfl) ?_
    refine va_get (D := gD G) (ci := 3) (v := .ref (h 2)) (C := RX3) (T := TX3) (N := 9) hx hb hts hiX3 hown hK hP 0 rfl rfl 2 (by decide) k19 (fun _ h9 => h9) rfl dX3_excludeFromNext_10 ?_
    refine lv_aload_n hx hb dX3_excludeFromNext_13 rfl (lv_at hl 0 rfl) ?_
    refine va_get (D := gD G) (ci := 3) (v := .int (w.1 0)) (C := RX3) (T := TX3) (N := 9) hx hb hts hiX3 hown hK hP 0 rfl rfl 0 (by decide) k9 (fun _ h9 => h9) rfl dX3_excludeFromNext_14 ?_
    refine topE hnv ?_
    refine lv_dup2_11 hx hb dX3_excludeFromNext_17 rfl rfl ?_
    refine ialdN (f := w.2 2) (n := 24) (k := nv) hx hb hK hP 2 rfl rfl (by omega) dX3_excludeFromNext_18 ?_
    refine lv_iload_n hx hb dX3_excludeFromNext_19 rfl (lv_at hl 1 rfl) ?_
    refine cSi (As := [.int (nI v1)]) (rest := [.int ((w.2 2) nv), .int (nI nv), .ref (h 2)]) ⟨hx, hb, hml, hown, hts⟩ (mt_X3_onlyF l (nI v1)) (va_cwS 1 hts gX3_excludeFromNext_X3_only rfl rfl rfl hd_X3_only ⟨Nat.le_of_ble_eq_true rfl, Nat.le_of_ble_eq_true rfl⟩) rfl hl.1 rfl (Nat.le_of_ble_eq_true rfl) ⟨Nat.zero_le _, Nat.zero_le _⟩ dX3_excludeFromNext_20 (fun r20 hw20 => ?_)
    obtain rfl := hw20
    refine topE (onl_n (v := v1) (by omega)) ?_
    refine lv_iconst (v := (-1 : Int32)) hx hb dX3_excludeFromNext_23 (by decide) ?_
    refine lv_ixor hx hb dX3_excludeFromNext_24 ?_
    refine lv_iand hx hb dX3_excludeFromNext_25 ?_
    refine iastN (f := w.2 2) (n := 24) (k := nv) hx hb hK hP hD hS 2 rfl rfl (by omega) dX3_excludeFromNext_26 (fun H locs hP hD hS => ?_)
    have hP : PP G (wv G h (oA w 2 (upd (w.2 2) nv (((w.2 2) nv) &&& (((1 : Int32) <<< (nI v1 &&& 31)) ^^^ (-1 : Int32)))))) H := hP
    have hD : va_D A (wv G h (oA w 2 (upd (w.2 2) nv (((w.2 2) nv) &&& (((1 : Int32) <<< (nI v1 &&& 31)) ^^^ (-1 : Int32)))))) := hD
    refine lv_aload_n hx hb dX3_excludeFromNext_27 rfl (lv_at hl 0 rfl) ?_
    refine va_get (D := gD G) (ci := 3) (v := .ref (h 3)) (C := RX3) (T := TX3) (N := 9) hx hb hts hiX3 hown hK hP 0 rfl rfl 3 (by decide) k22 (fun _ h9 => h9) rfl dX3_excludeFromNext_28 ?_
    refine lv_aload_n hx hb dX3_excludeFromNext_31 rfl (lv_at hl 0 rfl) ?_
    refine va_get (D := gD G) (ci := 3) (v := .int (w.1 0)) (C := RX3) (T := TX3) (N := 9) hx hb hts hiX3 hown hK hP 0 rfl rfl 0 (by decide) k9 (fun _ h9 => h9) rfl dX3_excludeFromNext_32 ?_
    refine topE hnv ?_
    refine lv_dup2_11 hx hb dX3_excludeFromNext_35 rfl rfl ?_
    refine ialdN (f := w.2 3) (n := 24) (k := nv) hx hb hK hP 3 rfl rfl (by omega) dX3_excludeFromNext_36 ?_
    refine lv_iload_n hx hb dX3_excludeFromNext_37 rfl (lv_at hl 1 rfl) ?_
    refine cSi (As := [.int (nI v1)]) (rest := [.int ((w.2 3) nv), .int (nI nv), .ref (h 3)]) ⟨hx, hb, hml, hown, hts⟩ (mt_X3_onlyF l (nI v1)) (va_cwS 1 hts gX3_excludeFromNext_X3_only rfl rfl rfl hd_X3_only ⟨Nat.le_of_ble_eq_true rfl, Nat.le_of_ble_eq_true rfl⟩) rfl hl.1 rfl (Nat.le_of_ble_eq_true rfl) ⟨Nat.zero_le _, Nat.zero_le _⟩ dX3_excludeFromNext_38 (fun r38 hw38 => ?_)
    obtain rfl := hw38
    refine topE (onl_n (v := v1) (by omega)) ?_
    refine lv_ior hx hb dX3_excludeFromNext_41 ?_
    refine iastN (f := w.2 3) (n := 24) (k := nv) hx hb hK hP hD hS 3 rfl rfl (by omega) dX3_excludeFromNext_42 (fun H locs hP hD hS => ?_)
    have hP : PP G (wv G h (oA (oA w 2 (upd (w.2 2) nv (((w.2 2) nv) &&& (((1 : Int32) <<< (nI v1 &&& 31)) ^^^ (-1 : Int32))))) 3 (upd (w.2 3) nv (((w.2 3) nv) ||| ((1 : Int32) <<< (nI v1 &&& 31)))))) H := hP
    have hD : va_D A (wv G h (oA (oA w 2 (upd (w.2 2) nv (((w.2 2) nv) &&& (((1 : Int32) <<< (nI v1 &&& 31)) ^^^ (-1 : Int32))))) 3 (upd (w.2 3) nv (((w.2 3) nv) ||| ((1 : Int32) <<< (nI v1 &&& 31)))))) := hD
    refine lv_aload_n hx hb dX3_excludeFromNext_43 rfl (lv_at hl 0 rfl) ?_
    refine cXv (As := []) (rest := []) (S := oS) (wa := wv G h (oA (oA w 2 (upd (w.2 2) nv (((w.2 2) nv) &&& (((1 : Int32) <<< (nI v1 &&& 31)) ^^^ (-1 : Int32))))) 3 (upd (w.2 3) nv (((w.2 3) nv) ||| ((1 : Int32) <<< (nI v1 &&& 31)))))) (w1 := fun v => wv G h v) ⟨hx, hb, hml, hown, hts⟩ (mt_X3_settleNextF l G h _ (oA (oA w 2 (upd (w.2 2) nv (((w.2 2) nv) &&& (((1 : Int32) <<< (nI v1 &&& 31)) ^^^ (-1 : Int32))))) 3 (upd (w.2 3) nv (((w.2 3) nv) ||| ((1 : Int32) <<< (nI v1 &&& 31))))) nv (hnv) (by first | assumption | omega) (hpn) (chOK_23 hch hpw (by omega) (Or.inr ⟨rfl, rfl⟩))) (cwV 0 hts gX3_excludeFromNext_X3_settleNext rfl rfl rfl ⟨rfl, hd_X3_settleNext⟩ ⟨Nat.le_of_ble_eq_true rfl, Nat.le_of_ble_eq_true rfl⟩) hK hN hP hD hS hA (fun _ => rfl) 0 3 rfl rfl rfl hl.1 rfl (Nat.le_of_ble_eq_true rfl) ⟨Nat.zero_le _, Nat.zero_le _⟩ dX3_excludeFromNext_44 (fun u44 H locs hw44 hP hD hS => ?_)
    obtain rfl := hw44
    have hP : PP G (wv G h (stW (oA (oA w 2 (upd (w.2 2) nv (((w.2 2) nv) &&& (((1 : Int32) <<< (nI v1 &&& 31)) ^^^ (-1 : Int32))))) 3 (upd (w.2 3) nv (((w.2 3) nv) ||| ((1 : Int32) <<< (nI v1 &&& 31))))) nv)) H := hP
    have hD : va_D A (wv G h (stW (oA (oA w 2 (upd (w.2 2) nv (((w.2 2) nv) &&& (((1 : Int32) <<< (nI v1 &&& 31)) ^^^ (-1 : Int32))))) 3 (upd (w.2 3) nv (((w.2 3) nv) ||| ((1 : Int32) <<< (nI v1 &&& 31))))) nv)) := hD
    exact W.vret hx hb hr (fun t ht hW => ⟨⟨(stW (oA (oA w 2 (upd (w.2 2) nv (((w.2 2) nv) &&& (((1 : Int32) <<< (nI v1 &&& 31)) ^^^ (-1 : Int32))))) 3 (upd (w.2 3) nv (((w.2 3) nv) ||| ((1 : Int32) <<< (nI v1 &&& 31))))) nv), rfl, rfl, show PP G (wv G h (stW (oA (oA w 2 (upd (w.2 2) nv (((w.2 2) nv) &&& (((1 : Int32) <<< (nI v1 &&& 31)) ^^^ (-1 : Int32))))) 3 (upd (w.2 3) nv (((w.2 3) nv) ||| ((1 : Int32) <<< (nI v1 &&& 31))))) nv)) t.heap by rw [ht]; exact hP⟩, hS.F ht⟩) hS.2.2 dX3_excludeFromNext_47
set_option maxHeartbeats 1000000 in
set_option maxRecDepth 100000 in
theorem mt_X3_removeLineF (l : Launch) (G : gG) (h : Nat → Nat) (sz : Nat) (w : oS) (nl : Nat) (i : Nat) (hnl : w.1 5 = nI nl) (hnl120 : nl ≤ 120) (hi : i < nl) : Met l yX3_removeLine wsX3_removeLine ({ frames := 2, cells := 0, slots := 0, locals := 49 }) (preW G (wv G h w) sz [.ref (h 0), .int (nI i)]) (va_Qv (fun (v : oS) => v = delW w i nl) (fun v t => PP G (wv G h v) t.heap) (va_A (wv G h w) sz)) 0 0 (va_A (wv G h w) sz) := by
  refine Met.ofW (cc := cX3_removeLine) (maxL := 2) (ret := none) (by decide) rfl ?_
  intro p e s m args below meth c s₁ B hml hv
  obtain ⟨ha, hsz, hP, hK, hN, hD0⟩ := hv
  subst ha
  have hx := B.exec
  have hb := B.bytes
  have hr := B.returns
  have hts := atoms_spec (ws := wsX3_removeLine) B.pre
  have hown : s.vm.findClass RX3 = some m.cls := findClass_of_methodNamed B.named
  have hlocks := B.notSynchronized
  subst hsz
  have hD := hD0.self (sz := s.heap.size)
  generalize hAe : va_A (wv G h w) s.heap.size = A at hD ⊢
  have hA : ∀ q : Nat, s.heap.size ≤ q → A q := fun q h => by rw [← hAe]; exact Or.inr h
  clear hAe hD0
  have hS : va_S A s.heap s.heap [] := va_S.rf
  have hiX3 : ∀ w ∈ wsX30, w ∈ wsX3_removeLine := fun w h9 => List.mem_cons_of_mem _ (List.mem_append_right _ (h9))
  have k28 := hts (.fieldLink RX3 28 "WovenHistory$Weave" "lines" "I") (List.mem_of_getElem? (i := 1) rfl)
  have hl := lv_entry ([.ref (h 0), .int (nI i)]) (n := 2) (Nat.le_of_ble_eq_true rfl)
  rw [lg_entry_eq]
  generalize (lg_sl ([.ref (h 0), .int (nI i)]) ++ List.replicate (2 - (lg_sl ([.ref (h 0), .int (nI i)])).length) Slot.unset).toArray = ls at hl ⊢
  have hl : lv_has ls 2 [(0, .ref (h 0)), (1, .int (nI i))] := hl
  refine lv_aload_n hx hb dX3_removeLine_0 rfl (lv_at hl 0 rfl) ?_
  refine lv_iload_n hx hb dX3_removeLine_1 rfl (lv_at hl 1 rfl) ?_
  refine lv_iconst (v := nI 1) hx hb dX3_removeLine_2 (by decide) ?_
  refine lv_iadd hx hb dX3_removeLine_3 ?_
  refine topE (y := nI (i + 1)) (nI_add i 1) ?_
  refine lv_iload_n hx hb dX3_removeLine_4 rfl (lv_at hl 1 rfl) ?_
  refine cXv (As := [.int (nI (i + 1)), .int (nI i)]) (rest := []) (S := oS) (wa := wv G h w) (w1 := fun v => wv G h v) ⟨hx, hb, hml, hown, hts⟩ (mt_X3_moveLinesF l G h _ w nl (i + 1) i (hnl) (by first | assumption | omega) (by first | assumption | omega) (by first | assumption | omega)) (cwV 2 hts gX3_removeLine_X3_moveLines rfl rfl rfl ⟨rfl, hd_X3_moveLines⟩ ⟨Nat.le_of_ble_eq_true rfl, Nat.le_of_ble_eq_true rfl⟩) hK hN hP hD hS hA (fun _ => rfl) 0 3 rfl rfl rfl hl.1 rfl (Nat.le_of_ble_eq_true rfl) ⟨Nat.zero_le _, Nat.zero_le _⟩ dX3_removeLine_5 (fun u5 H locs hw5 hP hD hS => ?_)
  obtain rfl := hw5
  have hP : PP G (wv G h (oA (oA (oA w 6 (va_cpy (w.2 6) (w.2 6) (i + 1) i (nl - (i + 1)))) 7 (va_cpy (w.2 7) (w.2 7) (i + 1) i (nl - (i + 1)))) 8 (va_cpy (w.2 8) (w.2 8) (i + 1) i (nl - (i + 1))))) H := hP
  have hD : va_D A (wv G h (oA (oA (oA w 6 (va_cpy (w.2 6) (w.2 6) (i + 1) i (nl - (i + 1)))) 7 (va_cpy (w.2 7) (w.2 7) (i + 1) i (nl - (i + 1)))) 8 (va_cpy (w.2 8) (w.2 8) (i + 1) i (nl - (i + 1))))) := hD
  refine lv_aload_n hx hb dX3_removeLine_8 rfl (lv_at hl 0 rfl) ?_
  refine lv_dup hx hb dX3_removeLine_9 rfl ?_
  refine va_get (D := gD G) (ci := 3) (v := .int (w.1 5)) (C := RX3) (T := TX3) (N := 9) hx hb hts hiX3 hown hK hP 0 rfl rfl 5 (by decide) k28 (fun _ h9 => h9) rfl dX3_removeLine_10 ?_
  refine topE hnl ?_
  refine lv_iconst (v := nI 1) hx hb dX3_removeLine_13 (by decide) ?_
  refine lv_isub hx hb dX3_removeLine_14 ?_
  refine topE (y := nI (nl - 1)) (pk_sub (by omega)) ?_
  refine va_put (D := gD G) (ci := 3) (v := .int (nI (nl - 1))) (ty := .int) (C := RX3) (T := TX3) (N := 9) hx hb hts hiX3 tyX3 tyX3_ok nmX3 hown hK hP hD hS 0 rfl rfl 5 (by decide) k28 (fun _ h9 => h9) rfl (tyX3_ok 5 (by decide)) (rfl) (rfl) (Nat.le_of_ble_eq_true rfl) dX3_removeLine_15 (fun H locs hP hD hS => ?_)
  have hP : PP G (wv G h (oI (oA (oA (oA w 6 (va_cpy (w.2 6) (w.2 6) (i + 1) i (nl - (i + 1)))) 7 (va_cpy (w.2 7) (w.2 7) (i + 1) i (nl - (i + 1)))) 8 (va_cpy (w.2 8) (w.2 8) (i + 1) i (nl - (i + 1)))) 5 (nI (nl - 1)))) H := hP
  have hD : va_D A (wv G h (oI (oA (oA (oA w 6 (va_cpy (w.2 6) (w.2 6) (i + 1) i (nl - (i + 1)))) 7 (va_cpy (w.2 7) (w.2 7) (i + 1) i (nl - (i + 1)))) 8 (va_cpy (w.2 8) (w.2 8) (i + 1) i (nl - (i + 1)))) 5 (nI (nl - 1)))) := hD
  exact W.vret hx hb hr (fun t ht hW => ⟨⟨(oI (oA (oA (oA w 6 (va_cpy (w.2 6) (w.2 6) (i + 1) i (nl - (i + 1)))) 7 (va_cpy (w.2 7) (w.2 7) (i + 1) i (nl - (i + 1)))) 8 (va_cpy (w.2 8) (w.2 8) (i + 1) i (nl - (i + 1)))) 5 (nI (nl - 1))), rfl, rfl, show PP G (wv G h (oI (oA (oA (oA w 6 (va_cpy (w.2 6) (w.2 6) (i + 1) i (nl - (i + 1)))) 7 (va_cpy (w.2 7) (w.2 7) (i + 1) i (nl - (i + 1)))) 8 (va_cpy (w.2 8) (w.2 8) (i + 1) i (nl - (i + 1)))) 5 (nI (nl - 1)))) t.heap by rw [ht]; exact hP⟩, hS.F ht⟩) hS.2.2 dX3_removeLine_18
set_option maxHeartbeats 1000000 in
set_option maxRecDepth 100000 in
theorem mt_X3_putByNextF (l : Launch) (G : gG) (h : Nat → Nat) (sz : Nat) (w : oS) (nv : Nat) (nl : Nat) (q : Nat) (lett : Int32) (hnv : w.1 0 = nI nv) (hnl : w.1 5 = nI nl) (hnv23 : nv < 24) (hnl119 : nl < 120) (hq : q < 2147483648) : Met l yX3_putByNext wsX3_putByNext ({ frames := 3, cells := 0, slots := 0, locals := 73 }) (preW G (wv G h w) sz [.ref (h 0), .int (nI q), .int lett]) (va_Qi (fun (r : Int32) (v : oS) => v = insW w (posP (sdb (w.2 7) (w.2 8) (w.2 4 nv)) nl q) nl lett (nI nv) (nI 0) ∧ r = nI (posP (sdb (w.2 7) (w.2 8) (w.2 4 nv)) nl q)) (fun v t => PP G (wv G h v) t.heap) (va_A (wv G h w) sz)) 0 0 (va_A (wv G h w) sz) := by
  refine Met.ofW (cc := cX3_putByNext) (maxL := 4) (ret := (some .int)) (by decide) rfl ?_
  intro p e s m args below meth c s₁ B hml hv
  obtain ⟨ha, hsz, hP, hK, hN, hD0⟩ := hv
  subst ha
  have hx := B.exec
  have hb := B.bytes
  have hr := B.returns
  have hts := atoms_spec (ws := wsX3_putByNext) B.pre
  have hown : s.vm.findClass RX3 = some m.cls := findClass_of_methodNamed B.named
  have hlocks := B.notSynchronized
  subst hsz
  have hD := hD0.self (sz := s.heap.size)
  generalize hAe : va_A (wv G h w) s.heap.size = A at hD ⊢
  have hA : ∀ q : Nat, s.heap.size ≤ q → A q := fun q h => by rw [← hAe]; exact Or.inr h
  clear hAe hD0
  have hS : va_S A s.heap s.heap [] := va_S.rf
  have hiX3 : ∀ w ∈ wsX30, w ∈ wsX3_putByNext := fun w h9 => List.mem_cons_of_mem _ (List.mem_append_right _ (h9))
  have k9 := hts (.fieldLink RX3 9 "WovenHistory$Weave" "versions" "I") (List.mem_of_getElem? (i := 1) rfl)
  have hl := lv_entry ([.ref (h 0), .int (nI q), .int lett]) (n := 4) (Nat.le_of_ble_eq_true rfl)
  rw [lg_entry_eq]
  generalize (lg_sl ([.ref (h 0), .int (nI q), .int lett]) ++ List.replicate (4 - (lg_sl ([.ref (h 0), .int (nI q), .int lett])).length) Slot.unset).toArray = ls at hl ⊢
  have hl : lv_has ls 4 [(0, .ref (h 0)), (1, .int (nI q)), (2, .int lett)] := hl
  refine lv_iload_n hx hb dX3_putByNext_0 rfl (lv_at hl 1 rfl) ?_
  refine lv_if_ne (tgt := 8) hx hb dX3_putByNext_1 (by decide) (fun c1 => ?_) (fun c1 => ?_)
  · skip
    have n1 : ¬ (q = 0) := fun q9 => c1 ((nI_eq (a := q) (b := 0) (by omega) (by omega)).mpr q9)
    refine lv_aload_n hx hb dX3_putByNext_8 rfl (lv_at hl 0 rfl) ?_
    refine lv_aload_n hx hb dX3_putByNext_9 rfl (lv_at hl 0 rfl) ?_
    refine lv_aload_n hx hb dX3_putByNext_10 rfl (lv_at hl 0 rfl) ?_
    refine va_get (D := gD G) (ci := 3) (v := .int (w.1 0)) (C := RX3) (T := TX3) (N := 9) hx hb hts hiX3 hown hK hP 0 rfl rfl 0 (by decide) k9 (fun _ h9 => h9) rfl dX3_putByNext_11 ?_
    refine topE hnv ?_
    refine cRi (w := wv G h w) (As := [.int (nI nv)]) (rest := [.ref (h 0)]) ⟨hx, hb, hml, hown, hts⟩ (mt_X3_changesOfN l G h w nv (by first | assumption | omega)) (cwV 1 hts gX3_putByNext_X3_changesOf rfl rfl rfl ⟨rfl, hd_X3_changesOf⟩ ⟨Nat.le_of_ble_eq_true rfl, Nat.le_of_ble_eq_true rfl⟩) hK hN hP 0 3 rfl rfl rfl hl.1 rfl (Nat.le_of_ble_eq_true rfl) ⟨Nat.zero_le _, Nat.zero_le _⟩ dX3_putByNext_14 (fun r14 hw14 => ?_)
    obtain rfl := hw14
    refine lv_iload_n hx hb dX3_putByNext_17 rfl (lv_at hl 1 rfl) ?_
    refine lv_iconst (v := nI 1) hx hb dX3_putByNext_18 (by decide) ?_
    refine lv_isub hx hb dX3_putByNext_19 ?_
    refine topE (y := nI (q - 1)) (pk_sub (by omega)) ?_
    refine cRi (w := wv G h w) (As := [.int (w.2 4 nv), .int (nI (q - 1))]) (rest := []) ⟨hx, hb, hml, hown, hts⟩ (mt_X3_findStandingF l G h w nl (w.2 4 nv) (q - 1) (hnl) (by first | assumption | omega) (by omega)) (cwV 2 hts gX3_putByNext_X3_findStanding rfl rfl rfl ⟨rfl, hd_X3_findStanding⟩ ⟨Nat.le_of_ble_eq_true rfl, Nat.le_of_ble_eq_true rfl⟩) hK hN hP 0 3 rfl rfl rfl hl.1 rfl (Nat.le_of_ble_eq_true rfl) ⟨Nat.zero_le _, Nat.zero_le _⟩ dX3_putByNext_20 (fun r20 hw20 => ?_)
    rcases hw20 with ⟨i20, hi20, hp20, hq20, rfl⟩ | ⟨hq20, rfl⟩
    · skip
      refine lv_istore_n (lv' := [(3, .int (nI (i20))), (0, .ref (h 0)), (1, .int (nI q)), (2, .int lett)]) hx hb dX3_putByNext_23 rfl hl (by decide) rfl (fun ls hl => ?_)
      refine lv_aload_n hx hb dX3_putByNext_24 rfl (lv_at hl 1 rfl) ?_
      refine lv_iload_n hx hb dX3_putByNext_25 rfl (lv_at hl 0 rfl) ?_
      refine lv_iconst (v := nI 1) hx hb dX3_putByNext_26 (by decide) ?_
      refine lv_iadd hx hb dX3_putByNext_27 ?_
      refine topE (y := nI (i20 + 1)) (nI_add i20 1) ?_
      refine lv_iload_n hx hb dX3_putByNext_28 rfl (lv_at hl 3 rfl) ?_
      refine lv_aload_n hx hb dX3_putByNext_29 rfl (lv_at hl 1 rfl) ?_
      refine va_get (D := gD G) (ci := 3) (v := .int (w.1 0)) (C := RX3) (T := TX3) (N := 9) hx hb hts hiX3 hown hK hP 0 rfl rfl 0 (by decide) k9 (fun _ h9 => h9) rfl dX3_putByNext_30 ?_
      refine topE hnv ?_
      refine lv_iconst (v := nI 0) hx hb dX3_putByNext_33 (by decide) ?_
      refine cXv (As := [.int (nI (i20 + 1)), .int lett, .int (nI nv), .int (nI 0)]) (rest := []) (S := oS) (wa := wv G h w) (w1 := fun v => wv G h v) ⟨hx, hb, hml, hown, hts⟩ (mt_X3_insertLineF l G h _ w nl (i20 + 1) lett (nI nv) (nI 0) (hnl) (by first | assumption | omega) (by first | assumption | omega)) (cwV 4 hts gX3_putByNext_X3_insertLine rfl rfl rfl ⟨rfl, hd_X3_insertLine⟩ ⟨Nat.le_of_ble_eq_true rfl, Nat.le_of_ble_eq_true rfl⟩) hK hN hP hD hS hA (fun _ => rfl) 0 3 rfl rfl rfl hl.1 rfl (Nat.le_of_ble_eq_true rfl) ⟨Nat.zero_le _, Nat.zero_le _⟩ dX3_putByNext_34 (fun u34 H locs hw34 hP hD hS => ?_)
      obtain rfl := hw34
      have hP : PP G (wv G h (insW w (i20 + 1) nl lett (nI nv) (nI 0))) H := hP
      have hD : va_D A (wv G h (insW w (i20 + 1) nl lett (nI nv) (nI 0))) := hD
      refine lv_iload_n hx hb dX3_putByNext_37 rfl (lv_at hl 0 rfl) ?_
      refine lv_iconst (v := nI 1) hx hb dX3_putByNext_38 (by decide) ?_
      refine lv_iadd hx hb dX3_putByNext_39 ?_
      refine topE (y := nI (i20 + 1)) (nI_add i20 1) ?_
      exact W.iret (v := nI (i20 + 1)) hx hb hr (fun t ht hW => ⟨⟨nI (i20 + 1), (insW w (i20 + 1) nl lett (nI nv) (nI 0)), rfl, (show _ ∧ _ from by have ea : i20 + 1 = posP (sdb (w.2 7) (w.2 8) (w.2 4 nv)) nl q := (by first | (unfold posP; rw [if_pos n1]) | (unfold posP; rw [if_neg n1, fndN_hit hp20 hq20 hi20, if_pos hi20]) | (unfold posP; rw [if_neg n1, fndN_miss hq20, if_neg (Nat.lt_irrefl _)])); rw [← ea]; exact ⟨rfl, rfl⟩), show PP G (wv G h (insW w (i20 + 1) nl lett (nI nv) (nI 0))) t.heap by rw [ht]; exact hP⟩, hS.F ht⟩) hS.2.2 dX3_putByNext_40
    · skip
      refine lv_istore_n (lv' := [(3, .int (-1 : Int32)), (0, .ref (h 0)), (1, .int (nI q)), (2, .int lett)]) hx hb dX3_putByNext_23 rfl hl (by decide) rfl (fun ls hl => ?_)
      refine lv_aload_n hx hb dX3_putByNext_24 rfl (lv_at hl 1 rfl) ?_
      refine lv_iload_n hx hb dX3_putByNext_25 rfl (lv_at hl 0 rfl) ?_
      refine lv_iconst (v := nI 1) hx hb dX3_putByNext_26 (by decide) ?_
      refine lv_iadd hx hb dX3_putByNext_27 ?_
      refine topE (y := nI 0) (by decide) ?_
      refine lv_iload_n hx hb dX3_putByNext_28 rfl (lv_at hl 3 rfl) ?_
      refine lv_aload_n hx hb dX3_putByNext_29 rfl (lv_at hl 1 rfl) ?_
      refine va_get (D := gD G) (ci := 3) (v := .int (w.1 0)) (C := RX3) (T := TX3) (N := 9) hx hb hts hiX3 hown hK hP 0 rfl rfl 0 (by decide) k9 (fun _ h9 => h9) rfl dX3_putByNext_30 ?_
      refine topE hnv ?_
      refine lv_iconst (v := nI 0) hx hb dX3_putByNext_33 (by decide) ?_
      refine cXv (As := [.int (nI 0), .int lett, .int (nI nv), .int (nI 0)]) (rest := []) (S := oS) (wa := wv G h w) (w1 := fun v => wv G h v) ⟨hx, hb, hml, hown, hts⟩ (mt_X3_insertLineF l G h _ w nl 0 lett (nI nv) (nI 0) (hnl) (by first | assumption | omega) (by first | assumption | omega)) (cwV 4 hts gX3_putByNext_X3_insertLine rfl rfl rfl ⟨rfl, hd_X3_insertLine⟩ ⟨Nat.le_of_ble_eq_true rfl, Nat.le_of_ble_eq_true rfl⟩) hK hN hP hD hS hA (fun _ => rfl) 0 3 rfl rfl rfl hl.1 rfl (Nat.le_of_ble_eq_true rfl) ⟨Nat.zero_le _, Nat.zero_le _⟩ dX3_putByNext_34 (fun u34 H locs hw34 hP hD hS => ?_)
      obtain rfl := hw34
      have hP : PP G (wv G h (insW w 0 nl lett (nI nv) (nI 0))) H := hP
      have hD : va_D A (wv G h (insW w 0 nl lett (nI nv) (nI 0))) := hD
      refine lv_iload_n hx hb dX3_putByNext_37 rfl (lv_at hl 0 rfl) ?_
      refine lv_iconst (v := nI 1) hx hb dX3_putByNext_38 (by decide) ?_
      refine lv_iadd hx hb dX3_putByNext_39 ?_
      refine topE (y := nI 0) (by decide) ?_
      exact W.iret (v := nI 0) hx hb hr (fun t ht hW => ⟨⟨nI 0, (insW w 0 nl lett (nI nv) (nI 0)), rfl, (show _ ∧ _ from by have ea : 0 = posP (sdb (w.2 7) (w.2 8) (w.2 4 nv)) nl q := (by first | (unfold posP; rw [if_pos n1]) | (unfold posP; rw [if_neg n1, fndN_hit hp20 hq20 hi20, if_pos hi20]) | (unfold posP; rw [if_neg n1, fndN_miss hq20, if_neg (Nat.lt_irrefl _)])); rw [← ea]; exact ⟨rfl, rfl⟩), show PP G (wv G h (insW w 0 nl lett (nI nv) (nI 0))) t.heap by rw [ht]; exact hP⟩, hS.F ht⟩) hS.2.2 dX3_putByNext_40
  · skip
    have n1 : q = 0 := (nI_eq (a := q) (b := 0) (by omega) (by omega)).mp c1
    refine lv_iconst (v := (-1 : Int32)) hx hb dX3_putByNext_4 (by decide) ?_
    refine lv_goto (tgt := 23) hx hb dX3_putByNext_5 (by decide) ?_
    refine lv_istore_n (lv' := [(3, .int (-1 : Int32)), (0, .ref (h 0)), (1, .int (nI q)), (2, .int lett)]) hx hb dX3_putByNext_23 rfl hl (by decide) rfl (fun ls hl => ?_)
    refine lv_aload_n hx hb dX3_putByNext_24 rfl (lv_at hl 1 rfl) ?_
    refine lv_iload_n hx hb dX3_putByNext_25 rfl (lv_at hl 0 rfl) ?_
    refine lv_iconst (v := nI 1) hx hb dX3_putByNext_26 (by decide) ?_
    refine lv_iadd hx hb dX3_putByNext_27 ?_
    refine topE (y := nI 0) (by decide) ?_
    refine lv_iload_n hx hb dX3_putByNext_28 rfl (lv_at hl 3 rfl) ?_
    refine lv_aload_n hx hb dX3_putByNext_29 rfl (lv_at hl 1 rfl) ?_
    refine va_get (D := gD G) (ci := 3) (v := .int (w.1 0)) (C := RX3) (T := TX3) (N := 9) hx hb hts hiX3 hown hK hP 0 rfl rfl 0 (by decide) k9 (fun _ h9 => h9) rfl dX3_putByNext_30 ?_
    refine topE hnv ?_
    refine lv_iconst (v := nI 0) hx hb dX3_putByNext_33 (by decide) ?_
    refine cXv (As := [.int (nI 0), .int lett, .int (nI nv), .int (nI 0)]) (rest := []) (S := oS) (wa := wv G h w) (w1 := fun v => wv G h v) ⟨hx, hb, hml, hown, hts⟩ (mt_X3_insertLineF l G h _ w nl 0 lett (nI nv) (nI 0) (hnl) (by first | assumption | omega) (by first | assumption | omega)) (cwV 4 hts gX3_putByNext_X3_insertLine rfl rfl rfl ⟨rfl, hd_X3_insertLine⟩ ⟨Nat.le_of_ble_eq_true rfl, Nat.le_of_ble_eq_true rfl⟩) hK hN hP hD hS hA (fun _ => rfl) 0 3 rfl rfl rfl hl.1 rfl (Nat.le_of_ble_eq_true rfl) ⟨Nat.zero_le _, Nat.zero_le _⟩ dX3_putByNext_34 (fun u34 H locs hw34 hP hD hS => ?_)
    obtain rfl := hw34
    have hP : PP G (wv G h (insW w 0 nl lett (nI nv) (nI 0))) H := hP
    have hD : va_D A (wv G h (insW w 0 nl lett (nI nv) (nI 0))) := hD
    refine lv_iload_n hx hb dX3_putByNext_37 rfl (lv_at hl 0 rfl) ?_
    refine lv_iconst (v := nI 1) hx hb dX3_putByNext_38 (by decide) ?_
    refine lv_iadd hx hb dX3_putByNext_39 ?_
    refine topE (y := nI 0) (by decide) ?_
    exact W.iret (v := nI 0) hx hb hr (fun t ht hW => ⟨⟨nI 0, (insW w 0 nl lett (nI nv) (nI 0)), rfl, (show _ ∧ _ from by have ea : 0 = posP (sdb (w.2 7) (w.2 8) (w.2 4 nv)) nl q := (by first | (unfold posP; rw [if_pos n1]) | (unfold posP; rw [if_neg n1, fndN_hit hp20 hq20 hi20, if_pos hi20]) | (unfold posP; rw [if_neg n1, fndN_miss hq20, if_neg (Nat.lt_irrefl _)])); rw [← ea]; exact ⟨rfl, rfl⟩), show PP G (wv G h (insW w 0 nl lett (nI nv) (nI 0))) t.heap by rw [ht]; exact hP⟩, hS.F ht⟩) hS.2.2 dX3_putByNext_40
set_option maxHeartbeats 1000000 in
set_option maxRecDepth 100000 in
theorem mt_X3_takeByNextF (l : Launch) (G : gG) (h : Nat → Nat) (sz : Nat) (w : oS) (nv : Nat) (nl : Nat) (q : Nat) (hnv : w.1 0 = nI nv) (hnl : w.1 5 = nI nl) (hnv23 : nv < 24) (hnl120 : nl ≤ 120) (hq : q < cnt (sdb (w.2 7) (w.2 8) (w.2 4 nv)) nl) : Met l yX3_takeByNext wsX3_takeByNext ({ frames := 3, cells := 0, slots := 0, locals := 70 }) (preW G (wv G h w) sz [.ref (h 0), .int (nI q)]) (va_Qi (fun (r : Int32) (v : oS) => v = tkW w (fndN (sdb (w.2 7) (w.2 8) (w.2 4 nv)) nl q) nv nl ∧ r = w.2 6 (fndN (sdb (w.2 7) (w.2 8) (w.2 4 nv)) nl q)) (fun v t => PP G (wv G h v) t.heap) (va_A (wv G h w) sz)) 0 0 (va_A (wv G h w) sz) := by
  refine Met.ofW (cc := cX3_takeByNext) (maxL := 4) (ret := (some .int)) (by decide) rfl ?_
  intro p e s m args below meth c s₁ B hml hv
  obtain ⟨ha, hsz, hP, hK, hN, hD0⟩ := hv
  subst ha
  have hx := B.exec
  have hb := B.bytes
  have hr := B.returns
  have hts := atoms_spec (ws := wsX3_takeByNext) B.pre
  have hown : s.vm.findClass RX3 = some m.cls := findClass_of_methodNamed B.named
  have hlocks := B.notSynchronized
  subst hsz
  have hD := hD0.self (sz := s.heap.size)
  generalize hAe : va_A (wv G h w) s.heap.size = A at hD ⊢
  have hA : ∀ q : Nat, s.heap.size ≤ q → A q := fun q h => by rw [← hAe]; exact Or.inr h
  clear hAe hD0
  have hS : va_S A s.heap s.heap [] := va_S.rf
  have hiX3 : ∀ w ∈ wsX30, w ∈ wsX3_takeByNext := fun w h9 => List.mem_cons_of_mem _ (List.mem_append_right _ (h9))
  have k9 := hts (.fieldLink RX3 9 "WovenHistory$Weave" "versions" "I") (List.mem_of_getElem? (i := 1) rfl)
  have k31 := hts (.fieldLink RX3 31 "WovenHistory$Weave" "sign" "[I") (List.mem_of_getElem? (i := 2) rfl)
  have k34 := hts (.fieldLink RX3 34 "WovenHistory$Weave" "brought" "[I") (List.mem_of_getElem? (i := 3) rfl)
  have k37 := hts (.fieldLink RX3 37 "WovenHistory$Weave" "took" "[I") (List.mem_of_getElem? (i := 4) rfl)
  have hl := lv_entry ([.ref (h 0), .int (nI q)]) (n := 4) (Nat.le_of_ble_eq_true rfl)
  rw [lg_entry_eq]
  generalize (lg_sl ([.ref (h 0), .int (nI q)]) ++ List.replicate (4 - (lg_sl ([.ref (h 0), .int (nI q)])).length) Slot.unset).toArray = ls at hl ⊢
  have hl : lv_has ls 4 [(0, .ref (h 0)), (1, .int (nI q))] := hl
  refine lv_aload_n hx hb dX3_takeByNext_0 rfl (lv_at hl 0 rfl) ?_
  refine lv_aload_n hx hb dX3_takeByNext_1 rfl (lv_at hl 0 rfl) ?_
  refine lv_aload_n hx hb dX3_takeByNext_2 rfl (lv_at hl 0 rfl) ?_
  refine va_get (D := gD G) (ci := 3) (v := .int (w.1 0)) (C := RX3) (T := TX3) (N := 9) hx hb hts hiX3 hown hK hP 0 rfl rfl 0 (by decide) k9 (fun _ h9 => h9) rfl dX3_takeByNext_3 ?_
  refine topE hnv ?_
  refine cRi (w := wv G h w) (As := [.int (nI nv)]) (rest := [.ref (h 0)]) ⟨hx, hb, hml, hown, hts⟩ (mt_X3_changesOfN l G h w nv (by first | assumption | omega)) (cwV 1 hts gX3_takeByNext_X3_changesOf rfl rfl rfl ⟨rfl, hd_X3_changesOf⟩ ⟨Nat.le_of_ble_eq_true rfl, Nat.le_of_ble_eq_true rfl⟩) hK hN hP 0 3 rfl rfl rfl hl.1 rfl (Nat.le_of_ble_eq_true rfl) ⟨Nat.zero_le _, Nat.zero_le _⟩ dX3_takeByNext_6 (fun r6 hw6 => ?_)
  obtain rfl := hw6
  refine lv_iload_n hx hb dX3_takeByNext_9 rfl (lv_at hl 1 rfl) ?_
  refine cRi (w := wv G h w) (As := [.int (w.2 4 nv), .int (nI q)]) (rest := []) ⟨hx, hb, hml, hown, hts⟩ (mt_X3_findStandingF l G h w nl (w.2 4 nv) q (hnl) (by first | assumption | omega) (by have := cnt_le (sdb (w.2 7) (w.2 8) (w.2 4 nv)) nl; omega)) (cwV 2 hts gX3_takeByNext_X3_findStanding rfl rfl rfl ⟨rfl, hd_X3_findStanding⟩ ⟨Nat.le_of_ble_eq_true rfl, Nat.le_of_ble_eq_true rfl⟩) hK hN hP 0 3 rfl rfl rfl hl.1 rfl (Nat.le_of_ble_eq_true rfl) ⟨Nat.zero_le _, Nat.zero_le _⟩ dX3_takeByNext_10 (fun r10 hw10 => ?_)
  rcases hw10 with ⟨i10, hi10, hp10, hq10, rfl⟩ | ⟨hq10, rfl⟩
  · skip
    have e10 : fndN (sdb (w.2 7) (w.2 8) (w.2 4 nv)) nl q = i10 := fndN_hit hp10 hq10 hi10
    refine lv_istore_n (lv' := [(2, .int (nI i10)), (0, .ref (h 0)), (1, .int (nI q))]) hx hb dX3_takeByNext_13 rfl hl (by decide) rfl (fun ls hl => ?_)
    refine lv_aload_n hx hb dX3_takeByNext_14 rfl (lv_at hl 1 rfl) ?_
    refine lv_iload_n hx hb dX3_takeByNext_15 rfl (lv_at hl 0 rfl) ?_
    refine cRi (w := wv G h w) (As := [.int (nI i10)]) (rest := []) ⟨hx, hb, hml, hown, hts⟩ (mt_X3_hasLine l G h w nl (nI i10) (hnl) (by first | assumption | omega)) (cwV 1 hts gX3_takeByNext_X3_hasLine rfl rfl rfl ⟨rfl, hd_X3_hasLine⟩ ⟨Nat.le_of_ble_eq_true rfl, Nat.le_of_ble_eq_true rfl⟩) hK hN hP 0 3 rfl rfl rfl hl.1 rfl (Nat.le_of_ble_eq_true rfl) ⟨Nat.zero_le _, Nat.zero_le _⟩ dX3_takeByNext_16 (fun r16 hw16 => ?_)
    rcases hw16 with ⟨rfl, j16, hj16, ej16⟩ | ⟨rfl, hn16⟩
    · skip
      refine lv_if_ne (tgt := 24) hx hb dX3_takeByNext_19 (by decide) (fun _ => ?_) (fun c9 => absurd c9 (by decide))
      refine lv_aload_n hx hb dX3_takeByNext_24 rfl (lv_at hl 1 rfl) ?_
      refine va_get (D := gD G) (ci := 3) (v := .ref (h 6)) (C := RX3) (T := TX3) (N := 9) hx hb hts hiX3 hown hK hP 0 rfl rfl 6 (by decide) k31 (fun _ h9 => h9) rfl dX3_takeByNext_25 ?_
      refine lv_iload_n hx hb dX3_takeByNext_28 rfl (lv_at hl 0 rfl) ?_
      refine ialdN (f := w.2 6) (n := 120) (k := i10) hx hb hK hP 5 rfl rfl (by omega) dX3_takeByNext_29 ?_
      refine lv_istore_n (lv' := [(3, .int ((w.2 6) i10)), (2, .int (nI i10)), (0, .ref (h 0)), (1, .int (nI q))]) hx hb dX3_takeByNext_30 rfl hl (by decide) rfl (fun ls hl => ?_)
      refine lv_aload_n hx hb dX3_takeByNext_31 rfl (lv_at hl 2 rfl) ?_
      refine va_get (D := gD G) (ci := 3) (v := .ref (h 7)) (C := RX3) (T := TX3) (N := 9) hx hb hts hiX3 hown hK hP 0 rfl rfl 7 (by decide) k34 (fun _ h9 => h9) rfl dX3_takeByNext_32 ?_
      refine lv_iload_n hx hb dX3_takeByNext_35 rfl (lv_at hl 1 rfl) ?_
      refine ialdN (f := w.2 7) (n := 120) (k := i10) hx hb hK hP 6 rfl rfl (by omega) dX3_takeByNext_36 ?_
      refine lv_aload_n hx hb dX3_takeByNext_37 rfl (lv_at hl 2 rfl) ?_
      refine va_get (D := gD G) (ci := 3) (v := .int (w.1 0)) (C := RX3) (T := TX3) (N := 9) hx hb hts hiX3 hown hK hP 0 rfl rfl 0 (by decide) k9 (fun _ h9 => h9) rfl dX3_takeByNext_38 ?_
      refine topE hnv ?_
      refine lv_icmp_ne (tgt := 52) hx hb dX3_takeByNext_41 (by decide) (fun c41 => ?_) (fun c41 => ?_)
      · skip
        refine lv_aload_n hx hb dX3_takeByNext_52 rfl (lv_at hl 2 rfl) ?_
        refine va_get (D := gD G) (ci := 3) (v := .ref (h 8)) (C := RX3) (T := TX3) (N := 9) hx hb hts hiX3 hown hK hP 0 rfl rfl 8 (by decide) k37 (fun _ h9 => h9) rfl dX3_takeByNext_53 ?_
        refine lv_iload_n hx hb dX3_takeByNext_56 rfl (lv_at hl 1 rfl) ?_
        refine lv_dup2_11 hx hb dX3_takeByNext_57 rfl rfl ?_
        refine ialdN (f := w.2 8) (n := 120) (k := i10) hx hb hK hP 7 rfl rfl (by omega) dX3_takeByNext_58 ?_
        refine lv_aload_n hx hb dX3_takeByNext_59 rfl (lv_at hl 2 rfl) ?_
        refine va_get (D := gD G) (ci := 3) (v := .int (w.1 0)) (C := RX3) (T := TX3) (N := 9) hx hb hts hiX3 hown hK hP 0 rfl rfl 0 (by decide) k9 (fun _ h9 => h9) rfl dX3_takeByNext_60 ?_
        refine topE hnv ?_
        refine cSi (As := [.int (nI nv)]) (rest := [.int ((w.2 8) i10), .int (nI i10), .ref (h 8)]) ⟨hx, hb, hml, hown, hts⟩ (mt_X3_onlyF l (nI nv)) (va_cwS 1 hts gX3_takeByNext_X3_only rfl rfl rfl hd_X3_only ⟨Nat.le_of_ble_eq_true rfl, Nat.le_of_ble_eq_true rfl⟩) rfl hl.1 rfl (Nat.le_of_ble_eq_true rfl) ⟨Nat.zero_le _, Nat.zero_le _⟩ dX3_takeByNext_63 (fun r63 hw63 => ?_)
        obtain rfl := hw63
        refine topE (onl_n (v := nv) (by omega)) ?_
        refine lv_ior hx hb dX3_takeByNext_66 ?_
        refine iastN (f := w.2 8) (n := 120) (k := i10) hx hb hK hP hD hS 7 rfl rfl (by omega) dX3_takeByNext_67 (fun H locs hP hD hS => ?_)
        have hP : PP G (wv G h (oA w 8 (upd (w.2 8) i10 (((w.2 8) i10) ||| ((1 : Int32) <<< (nI nv &&& 31)))))) H := hP
        have hD : va_D A (wv G h (oA w 8 (upd (w.2 8) i10 (((w.2 8) i10) ||| ((1 : Int32) <<< (nI nv &&& 31)))))) := hD
        refine lv_iload_n hx hb dX3_takeByNext_68 rfl (lv_at hl 0 rfl) ?_
        exact W.iret (v := (w.2 6) i10) hx hb hr (fun t ht hW => ⟨⟨(w.2 6) i10, (oA w 8 (upd (w.2 8) i10 (((w.2 8) i10) ||| ((1 : Int32) <<< (nI nv &&& 31))))), rfl, by rw [e10]; exact ⟨by unfold tkW; first | rw [if_pos c41] | rw [if_neg c41], rfl⟩, show PP G (wv G h (oA w 8 (upd (w.2 8) i10 (((w.2 8) i10) ||| ((1 : Int32) <<< (nI nv &&& 31)))))) t.heap by rw [ht]; exact hP⟩, hS.F ht⟩) hS.2.2 dX3_takeByNext_69
      · skip
        refine lv_aload_n hx hb dX3_takeByNext_44 rfl (lv_at hl 2 rfl) ?_
        refine lv_iload_n hx hb dX3_takeByNext_45 rfl (lv_at hl 1 rfl) ?_
        refine cXv (As := [.int (nI i10)]) (rest := []) (S := oS) (wa := wv G h w) (w1 := fun v => wv G h v) ⟨hx, hb, hml, hown, hts⟩ (mt_X3_removeLineF l G h _ w nl i10 (hnl) (by first | assumption | omega) (by first | assumption | omega)) (cwV 1 hts gX3_takeByNext_X3_removeLine rfl rfl rfl ⟨rfl, hd_X3_removeLine⟩ ⟨Nat.le_of_ble_eq_true rfl, Nat.le_of_ble_eq_true rfl⟩) hK hN hP hD hS hA (fun _ => rfl) 0 3 rfl rfl rfl hl.1 rfl (Nat.le_of_ble_eq_true rfl) ⟨Nat.zero_le _, Nat.zero_le _⟩ dX3_takeByNext_46 (fun u46 H locs hw46 hP hD hS => ?_)
        obtain rfl := hw46
        have hP : PP G (wv G h (delW w i10 nl)) H := hP
        have hD : va_D A (wv G h (delW w i10 nl)) := hD
        refine lv_goto (tgt := 68) hx hb dX3_takeByNext_49 (by decide) ?_
        refine lv_iload_n hx hb dX3_takeByNext_68 rfl (lv_at hl 0 rfl) ?_
        exact W.iret (v := (w.2 6) i10) hx hb hr (fun t ht hW => ⟨⟨(w.2 6) i10, (delW w i10 nl), rfl, by rw [e10]; exact ⟨by unfold tkW; first | rw [if_pos c41] | rw [if_neg c41], rfl⟩, show PP G (wv G h (delW w i10 nl)) t.heap by rw [ht]; exact hP⟩, hS.F ht⟩) hS.2.2 dX3_takeByNext_69
    · skip
      exact absurd rfl (hn16 i10 hi10)
  · skip
    omega
set_option maxHeartbeats 1000000 in
set_option maxRecDepth 100000 in
theorem mt_X3_becomeF (l : Launch) (G : gG) (h : Nat → Nat) (sz : Nat) (w : oS) (w2 : oS) (k : Nat → Nat) : Met l yX3_become wsX3_become ({ frames := 1, cells := 0, slots := 0, locals := 26 }) (preW G (wb G h k w w2) sz [.ref (h 0), .ref (k 0)]) (va_Qv (fun (v : oS × oS) => ∃ w', v = (w', w2) ∧ cpW w2 w') (fun v t => PP G (wb G h k v.1 v.2) t.heap) (va_A (wb G h k w w2) sz)) 0 0 (va_A (wb G h k w w2) sz) := by
  refine Met.ofW (cc := cX3_become) (maxL := 2) (ret := none) (by decide) rfl ?_
  intro p e s m args below meth c s₁ B hml hv
  obtain ⟨ha, hsz, hP, hK, hN, hD0⟩ := hv
  subst ha
  have hx := B.exec
  have hb := B.bytes
  have hr := B.returns
  have hts := atoms_spec (ws := wsX3_become) B.pre
  have hown : s.vm.findClass RX3 = some m.cls := findClass_of_methodNamed B.named
  have hlocks := B.notSynchronized
  subst hsz
  have hD := hD0.self (sz := s.heap.size)
  generalize hAe : va_A (wb G h k w w2) s.heap.size = A at hD ⊢
  have hA : ∀ q : Nat, s.heap.size ≤ q → A q := fun q h => by rw [← hAe]; exact Or.inr h
  clear hAe hD0
  have hS : va_S A s.heap s.heap [] := va_S.rf
  have hiX3 : ∀ w ∈ wsX30, w ∈ wsX3_become := fun w h9 => List.mem_cons_of_mem _ (List.mem_append_right _ (h9))
  have k9 := hts (.fieldLink RX3 9 "WovenHistory$Weave" "versions" "I") (List.mem_of_getElem? (i := 1) rfl)
  have k15 := hts (.fieldLink RX3 15 "WovenHistory$Weave" "from" "[I") (List.mem_of_getElem? (i := 2) rfl)
  have k19 := hts (.fieldLink RX3 19 "WovenHistory$Weave" "included" "[I") (List.mem_of_getElem? (i := 7) rfl)
  have k22 := hts (.fieldLink RX3 22 "WovenHistory$Weave" "excluded" "[I") (List.mem_of_getElem? (i := 8) rfl)
  have k25 := hts (.fieldLink RX3 25 "WovenHistory$Weave" "changes" "[I") (List.mem_of_getElem? (i := 9) rfl)
  have k28 := hts (.fieldLink RX3 28 "WovenHistory$Weave" "lines" "I") (List.mem_of_getElem? (i := 10) rfl)
  have k31 := hts (.fieldLink RX3 31 "WovenHistory$Weave" "sign" "[I") (List.mem_of_getElem? (i := 11) rfl)
  have k34 := hts (.fieldLink RX3 34 "WovenHistory$Weave" "brought" "[I") (List.mem_of_getElem? (i := 12) rfl)
  have k37 := hts (.fieldLink RX3 37 "WovenHistory$Weave" "took" "[I") (List.mem_of_getElem? (i := 13) rfl)
  have hl := lv_entry ([.ref (h 0), .ref (k 0)]) (n := 2) (Nat.le_of_ble_eq_true rfl)
  rw [lg_entry_eq]
  generalize (lg_sl ([.ref (h 0), .ref (k 0)]) ++ List.replicate (2 - (lg_sl ([.ref (h 0), .ref (k 0)])).length) Slot.unset).toArray = ls at hl ⊢
  have hl : lv_has ls 2 [(0, .ref (h 0)), (1, .ref (k 0))] := hl
  refine lv_aload_n hx hb dX3_become_0 rfl (lv_at hl 0 rfl) ?_
  refine lv_aload_n hx hb dX3_become_1 rfl (lv_at hl 1 rfl) ?_
  refine va_get (D := gD G) (ci := 3) (v := .int (w2.1 0)) (C := RX3) (T := TX3) (N := 9) hx hb hts hiX3 hown hK hP 8 rfl rfl 0 (by decide) k9 (fun _ h9 => h9) rfl dX3_become_2 ?_
  refine va_put (D := gD G) (ci := 3) (v := .int (w2.1 0)) (ty := .int) (C := RX3) (T := TX3) (N := 9) hx hb hts hiX3 tyX3 tyX3_ok nmX3 hown hK hP hD hS 0 rfl rfl 0 (by decide) k9 (fun _ h9 => h9) rfl (tyX3_ok 0 (by decide)) (rfl) (rfl) (Nat.le_of_ble_eq_true rfl) dX3_become_5 (fun H locs hP hD hS => ?_)
  have hP : PP G (wb G h k (oI w 0 (w2.1 0)) w2) H := hP
  have hD : va_D A (wb G h k (oI w 0 (w2.1 0)) w2) := hD
  refine lv_aload_n hx hb dX3_become_8 rfl (lv_at hl 1 rfl) ?_
  refine va_get (D := gD G) (ci := 3) (v := .ref (k 1)) (C := RX3) (T := TX3) (N := 9) hx hb hts hiX3 hown hK hP 8 rfl rfl 1 (by decide) k15 (fun _ h9 => h9) rfl dX3_become_9 ?_
  refine lv_iconst (v := nI 0) hx hb dX3_become_12 (by decide) ?_
  refine lv_aload_n hx hb dX3_become_13 rfl (lv_at hl 0 rfl) ?_
  refine va_get (D := gD G) (ci := 3) (v := .ref (h 1)) (C := RX3) (T := TX3) (N := 9) hx hb hts hiX3 hown hK hP 0 rfl rfl 1 (by decide) k15 (fun _ h9 => h9) rfl dX3_become_14 ?_
  refine lv_iconst (v := nI 0) hx hb dX3_become_17 (by decide) ?_
  refine lv_bipush (v := nI 24) hx hb dX3_become_18 (by decide) ?_
  refine cpyN (f := w2.2 1) (g := w.2 1) (n0 := 24) (n1 := 24) (sp := 0) (dp := 0) (n := 24) hx hb (hml.trans hl.1.symm) hown (hts (.methodLink RX3 44 arraycopyName) (List.mem_of_getElem? (i := 3) rfl)) (hts (.native arraycopyName) (List.mem_of_getElem? (i := 4) rfl)) (hts (.static arraycopyName) (List.mem_of_getElem? (i := 5) rfl)) (hts (.initialized "java/lang/System") (List.mem_of_getElem? (i := 6) rfl)) hK hP hD hS 9 1 rfl rfl rfl rfl (by omega) (by omega) (Nat.le_of_ble_eq_true rfl) (Nat.le_of_ble_eq_true rfl) dX3_become_20 (fun H locs hP hD hS => ?_)
  have hP : PP G (wb G h k (oA (oI w 0 (w2.1 0)) 1 (va_cpy (w2.2 1) (w.2 1) 0 0 24)) w2) H := hP
  have hD : va_D A (wb G h k (oA (oI w 0 (w2.1 0)) 1 (va_cpy (w2.2 1) (w.2 1) 0 0 24)) w2) := hD
  refine lv_aload_n hx hb dX3_become_23 rfl (lv_at hl 1 rfl) ?_
  refine va_get (D := gD G) (ci := 3) (v := .ref (k 2)) (C := RX3) (T := TX3) (N := 9) hx hb hts hiX3 hown hK hP 8 rfl rfl 2 (by decide) k19 (fun _ h9 => h9) rfl dX3_become_24 ?_
  refine lv_iconst (v := nI 0) hx hb dX3_become_27 (by decide) ?_
  refine lv_aload_n hx hb dX3_become_28 rfl (lv_at hl 0 rfl) ?_
  refine va_get (D := gD G) (ci := 3) (v := .ref (h 2)) (C := RX3) (T := TX3) (N := 9) hx hb hts hiX3 hown hK hP 0 rfl rfl 2 (by decide) k19 (fun _ h9 => h9) rfl dX3_become_29 ?_
  refine lv_iconst (v := nI 0) hx hb dX3_become_32 (by decide) ?_
  refine lv_bipush (v := nI 24) hx hb dX3_become_33 (by decide) ?_
  refine cpyN (f := w2.2 2) (g := w.2 2) (n0 := 24) (n1 := 24) (sp := 0) (dp := 0) (n := 24) hx hb (hml.trans hl.1.symm) hown (hts (.methodLink RX3 44 arraycopyName) (List.mem_of_getElem? (i := 3) rfl)) (hts (.native arraycopyName) (List.mem_of_getElem? (i := 4) rfl)) (hts (.static arraycopyName) (List.mem_of_getElem? (i := 5) rfl)) (hts (.initialized "java/lang/System") (List.mem_of_getElem? (i := 6) rfl)) hK hP hD hS 10 2 rfl rfl rfl rfl (by omega) (by omega) (Nat.le_of_ble_eq_true rfl) (Nat.le_of_ble_eq_true rfl) dX3_become_35 (fun H locs hP hD hS => ?_)
  have hP : PP G (wb G h k (oA (oA (oI w 0 (w2.1 0)) 1 (va_cpy (w2.2 1) (w.2 1) 0 0 24)) 2 (va_cpy (w2.2 2) (w.2 2) 0 0 24)) w2) H := hP
  have hD : va_D A (wb G h k (oA (oA (oI w 0 (w2.1 0)) 1 (va_cpy (w2.2 1) (w.2 1) 0 0 24)) 2 (va_cpy (w2.2 2) (w.2 2) 0 0 24)) w2) := hD
  refine lv_aload_n hx hb dX3_become_38 rfl (lv_at hl 1 rfl) ?_
  refine va_get (D := gD G) (ci := 3) (v := .ref (k 3)) (C := RX3) (T := TX3) (N := 9) hx hb hts hiX3 hown hK hP 8 rfl rfl 3 (by decide) k22 (fun _ h9 => h9) rfl dX3_become_39 ?_
  refine lv_iconst (v := nI 0) hx hb dX3_become_42 (by decide) ?_
  refine lv_aload_n hx hb dX3_become_43 rfl (lv_at hl 0 rfl) ?_
  refine va_get (D := gD G) (ci := 3) (v := .ref (h 3)) (C := RX3) (T := TX3) (N := 9) hx hb hts hiX3 hown hK hP 0 rfl rfl 3 (by decide) k22 (fun _ h9 => h9) rfl dX3_become_44 ?_
  refine lv_iconst (v := nI 0) hx hb dX3_become_47 (by decide) ?_
  refine lv_bipush (v := nI 24) hx hb dX3_become_48 (by decide) ?_
  refine cpyN (f := w2.2 3) (g := w.2 3) (n0 := 24) (n1 := 24) (sp := 0) (dp := 0) (n := 24) hx hb (hml.trans hl.1.symm) hown (hts (.methodLink RX3 44 arraycopyName) (List.mem_of_getElem? (i := 3) rfl)) (hts (.native arraycopyName) (List.mem_of_getElem? (i := 4) rfl)) (hts (.static arraycopyName) (List.mem_of_getElem? (i := 5) rfl)) (hts (.initialized "java/lang/System") (List.mem_of_getElem? (i := 6) rfl)) hK hP hD hS 11 3 rfl rfl rfl rfl (by omega) (by omega) (Nat.le_of_ble_eq_true rfl) (Nat.le_of_ble_eq_true rfl) dX3_become_50 (fun H locs hP hD hS => ?_)
  have hP : PP G (wb G h k (oA (oA (oA (oI w 0 (w2.1 0)) 1 (va_cpy (w2.2 1) (w.2 1) 0 0 24)) 2 (va_cpy (w2.2 2) (w.2 2) 0 0 24)) 3 (va_cpy (w2.2 3) (w.2 3) 0 0 24)) w2) H := hP
  have hD : va_D A (wb G h k (oA (oA (oA (oI w 0 (w2.1 0)) 1 (va_cpy (w2.2 1) (w.2 1) 0 0 24)) 2 (va_cpy (w2.2 2) (w.2 2) 0 0 24)) 3 (va_cpy (w2.2 3) (w.2 3) 0 0 24)) w2) := hD
  refine lv_aload_n hx hb dX3_become_53 rfl (lv_at hl 1 rfl) ?_
  refine va_get (D := gD G) (ci := 3) (v := .ref (k 4)) (C := RX3) (T := TX3) (N := 9) hx hb hts hiX3 hown hK hP 8 rfl rfl 4 (by decide) k25 (fun _ h9 => h9) rfl dX3_become_54 ?_
  refine lv_iconst (v := nI 0) hx hb dX3_become_57 (by decide) ?_
  refine lv_aload_n hx hb dX3_become_58 rfl (lv_at hl 0 rfl) ?_
  refine va_get (D := gD G) (ci := 3) (v := .ref (h 4)) (C := RX3) (T := TX3) (N := 9) hx hb hts hiX3 hown hK hP 0 rfl rfl 4 (by decide) k25 (fun _ h9 => h9) rfl dX3_become_59 ?_
  refine lv_iconst (v := nI 0) hx hb dX3_become_62 (by decide) ?_
  refine lv_bipush (v := nI 24) hx hb dX3_become_63 (by decide) ?_
  refine cpyN (f := w2.2 4) (g := w.2 4) (n0 := 24) (n1 := 24) (sp := 0) (dp := 0) (n := 24) hx hb (hml.trans hl.1.symm) hown (hts (.methodLink RX3 44 arraycopyName) (List.mem_of_getElem? (i := 3) rfl)) (hts (.native arraycopyName) (List.mem_of_getElem? (i := 4) rfl)) (hts (.static arraycopyName) (List.mem_of_getElem? (i := 5) rfl)) (hts (.initialized "java/lang/System") (List.mem_of_getElem? (i := 6) rfl)) hK hP hD hS 12 4 rfl rfl rfl rfl (by omega) (by omega) (Nat.le_of_ble_eq_true rfl) (Nat.le_of_ble_eq_true rfl) dX3_become_65 (fun H locs hP hD hS => ?_)
  have hP : PP G (wb G h k (oA (oA (oA (oA (oI w 0 (w2.1 0)) 1 (va_cpy (w2.2 1) (w.2 1) 0 0 24)) 2 (va_cpy (w2.2 2) (w.2 2) 0 0 24)) 3 (va_cpy (w2.2 3) (w.2 3) 0 0 24)) 4 (va_cpy (w2.2 4) (w.2 4) 0 0 24)) w2) H := hP
  have hD : va_D A (wb G h k (oA (oA (oA (oA (oI w 0 (w2.1 0)) 1 (va_cpy (w2.2 1) (w.2 1) 0 0 24)) 2 (va_cpy (w2.2 2) (w.2 2) 0 0 24)) 3 (va_cpy (w2.2 3) (w.2 3) 0 0 24)) 4 (va_cpy (w2.2 4) (w.2 4) 0 0 24)) w2) := hD
  refine lv_aload_n hx hb dX3_become_68 rfl (lv_at hl 0 rfl) ?_
  refine lv_aload_n hx hb dX3_become_69 rfl (lv_at hl 1 rfl) ?_
  refine va_get (D := gD G) (ci := 3) (v := .int (w2.1 5)) (C := RX3) (T := TX3) (N := 9) hx hb hts hiX3 hown hK hP 8 rfl rfl 5 (by decide) k28 (fun _ h9 => h9) rfl dX3_become_70 ?_
  refine va_put (D := gD G) (ci := 3) (v := .int (w2.1 5)) (ty := .int) (C := RX3) (T := TX3) (N := 9) hx hb hts hiX3 tyX3 tyX3_ok nmX3 hown hK hP hD hS 0 rfl rfl 5 (by decide) k28 (fun _ h9 => h9) rfl (tyX3_ok 5 (by decide)) (rfl) (rfl) (Nat.le_of_ble_eq_true rfl) dX3_become_73 (fun H locs hP hD hS => ?_)
  have hP : PP G (wb G h k (oI (oA (oA (oA (oA (oI w 0 (w2.1 0)) 1 (va_cpy (w2.2 1) (w.2 1) 0 0 24)) 2 (va_cpy (w2.2 2) (w.2 2) 0 0 24)) 3 (va_cpy (w2.2 3) (w.2 3) 0 0 24)) 4 (va_cpy (w2.2 4) (w.2 4) 0 0 24)) 5 (w2.1 5)) w2) H := hP
  have hD : va_D A (wb G h k (oI (oA (oA (oA (oA (oI w 0 (w2.1 0)) 1 (va_cpy (w2.2 1) (w.2 1) 0 0 24)) 2 (va_cpy (w2.2 2) (w.2 2) 0 0 24)) 3 (va_cpy (w2.2 3) (w.2 3) 0 0 24)) 4 (va_cpy (w2.2 4) (w.2 4) 0 0 24)) 5 (w2.1 5)) w2) := hD
  refine lv_aload_n hx hb dX3_become_76 rfl (lv_at hl 1 rfl) ?_
  refine va_get (D := gD G) (ci := 3) (v := .ref (k 6)) (C := RX3) (T := TX3) (N := 9) hx hb hts hiX3 hown hK hP 8 rfl rfl 6 (by decide) k31 (fun _ h9 => h9) rfl dX3_become_77 ?_
  refine lv_iconst (v := nI 0) hx hb dX3_become_80 (by decide) ?_
  refine lv_aload_n hx hb dX3_become_81 rfl (lv_at hl 0 rfl) ?_
  refine va_get (D := gD G) (ci := 3) (v := .ref (h 6)) (C := RX3) (T := TX3) (N := 9) hx hb hts hiX3 hown hK hP 0 rfl rfl 6 (by decide) k31 (fun _ h9 => h9) rfl dX3_become_82 ?_
  refine lv_iconst (v := nI 0) hx hb dX3_become_85 (by decide) ?_
  refine lv_bipush (v := nI 120) hx hb dX3_become_86 (by decide) ?_
  refine cpyN (f := w2.2 6) (g := w.2 6) (n0 := 120) (n1 := 120) (sp := 0) (dp := 0) (n := 120) hx hb (hml.trans hl.1.symm) hown (hts (.methodLink RX3 44 arraycopyName) (List.mem_of_getElem? (i := 3) rfl)) (hts (.native arraycopyName) (List.mem_of_getElem? (i := 4) rfl)) (hts (.static arraycopyName) (List.mem_of_getElem? (i := 5) rfl)) (hts (.initialized "java/lang/System") (List.mem_of_getElem? (i := 6) rfl)) hK hP hD hS 13 5 rfl rfl rfl rfl (by omega) (by omega) (Nat.le_of_ble_eq_true rfl) (Nat.le_of_ble_eq_true rfl) dX3_become_88 (fun H locs hP hD hS => ?_)
  have hP : PP G (wb G h k (oA (oI (oA (oA (oA (oA (oI w 0 (w2.1 0)) 1 (va_cpy (w2.2 1) (w.2 1) 0 0 24)) 2 (va_cpy (w2.2 2) (w.2 2) 0 0 24)) 3 (va_cpy (w2.2 3) (w.2 3) 0 0 24)) 4 (va_cpy (w2.2 4) (w.2 4) 0 0 24)) 5 (w2.1 5)) 6 (va_cpy (w2.2 6) (w.2 6) 0 0 120)) w2) H := hP
  have hD : va_D A (wb G h k (oA (oI (oA (oA (oA (oA (oI w 0 (w2.1 0)) 1 (va_cpy (w2.2 1) (w.2 1) 0 0 24)) 2 (va_cpy (w2.2 2) (w.2 2) 0 0 24)) 3 (va_cpy (w2.2 3) (w.2 3) 0 0 24)) 4 (va_cpy (w2.2 4) (w.2 4) 0 0 24)) 5 (w2.1 5)) 6 (va_cpy (w2.2 6) (w.2 6) 0 0 120)) w2) := hD
  refine lv_aload_n hx hb dX3_become_91 rfl (lv_at hl 1 rfl) ?_
  refine va_get (D := gD G) (ci := 3) (v := .ref (k 7)) (C := RX3) (T := TX3) (N := 9) hx hb hts hiX3 hown hK hP 8 rfl rfl 7 (by decide) k34 (fun _ h9 => h9) rfl dX3_become_92 ?_
  refine lv_iconst (v := nI 0) hx hb dX3_become_95 (by decide) ?_
  refine lv_aload_n hx hb dX3_become_96 rfl (lv_at hl 0 rfl) ?_
  refine va_get (D := gD G) (ci := 3) (v := .ref (h 7)) (C := RX3) (T := TX3) (N := 9) hx hb hts hiX3 hown hK hP 0 rfl rfl 7 (by decide) k34 (fun _ h9 => h9) rfl dX3_become_97 ?_
  refine lv_iconst (v := nI 0) hx hb dX3_become_100 (by decide) ?_
  refine lv_bipush (v := nI 120) hx hb dX3_become_101 (by decide) ?_
  refine cpyN (f := w2.2 7) (g := w.2 7) (n0 := 120) (n1 := 120) (sp := 0) (dp := 0) (n := 120) hx hb (hml.trans hl.1.symm) hown (hts (.methodLink RX3 44 arraycopyName) (List.mem_of_getElem? (i := 3) rfl)) (hts (.native arraycopyName) (List.mem_of_getElem? (i := 4) rfl)) (hts (.static arraycopyName) (List.mem_of_getElem? (i := 5) rfl)) (hts (.initialized "java/lang/System") (List.mem_of_getElem? (i := 6) rfl)) hK hP hD hS 14 6 rfl rfl rfl rfl (by omega) (by omega) (Nat.le_of_ble_eq_true rfl) (Nat.le_of_ble_eq_true rfl) dX3_become_103 (fun H locs hP hD hS => ?_)
  have hP : PP G (wb G h k (oA (oA (oI (oA (oA (oA (oA (oI w 0 (w2.1 0)) 1 (va_cpy (w2.2 1) (w.2 1) 0 0 24)) 2 (va_cpy (w2.2 2) (w.2 2) 0 0 24)) 3 (va_cpy (w2.2 3) (w.2 3) 0 0 24)) 4 (va_cpy (w2.2 4) (w.2 4) 0 0 24)) 5 (w2.1 5)) 6 (va_cpy (w2.2 6) (w.2 6) 0 0 120)) 7 (va_cpy (w2.2 7) (w.2 7) 0 0 120)) w2) H := hP
  have hD : va_D A (wb G h k (oA (oA (oI (oA (oA (oA (oA (oI w 0 (w2.1 0)) 1 (va_cpy (w2.2 1) (w.2 1) 0 0 24)) 2 (va_cpy (w2.2 2) (w.2 2) 0 0 24)) 3 (va_cpy (w2.2 3) (w.2 3) 0 0 24)) 4 (va_cpy (w2.2 4) (w.2 4) 0 0 24)) 5 (w2.1 5)) 6 (va_cpy (w2.2 6) (w.2 6) 0 0 120)) 7 (va_cpy (w2.2 7) (w.2 7) 0 0 120)) w2) := hD
  refine lv_aload_n hx hb dX3_become_106 rfl (lv_at hl 1 rfl) ?_
  refine va_get (D := gD G) (ci := 3) (v := .ref (k 8)) (C := RX3) (T := TX3) (N := 9) hx hb hts hiX3 hown hK hP 8 rfl rfl 8 (by decide) k37 (fun _ h9 => h9) rfl dX3_become_107 ?_
  refine lv_iconst (v := nI 0) hx hb dX3_become_110 (by decide) ?_
  refine lv_aload_n hx hb dX3_become_111 rfl (lv_at hl 0 rfl) ?_
  refine va_get (D := gD G) (ci := 3) (v := .ref (h 8)) (C := RX3) (T := TX3) (N := 9) hx hb hts hiX3 hown hK hP 0 rfl rfl 8 (by decide) k37 (fun _ h9 => h9) rfl dX3_become_112 ?_
  refine lv_iconst (v := nI 0) hx hb dX3_become_115 (by decide) ?_
  refine lv_bipush (v := nI 120) hx hb dX3_become_116 (by decide) ?_
  refine cpyN (f := w2.2 8) (g := w.2 8) (n0 := 120) (n1 := 120) (sp := 0) (dp := 0) (n := 120) hx hb (hml.trans hl.1.symm) hown (hts (.methodLink RX3 44 arraycopyName) (List.mem_of_getElem? (i := 3) rfl)) (hts (.native arraycopyName) (List.mem_of_getElem? (i := 4) rfl)) (hts (.static arraycopyName) (List.mem_of_getElem? (i := 5) rfl)) (hts (.initialized "java/lang/System") (List.mem_of_getElem? (i := 6) rfl)) hK hP hD hS 15 7 rfl rfl rfl rfl (by omega) (by omega) (Nat.le_of_ble_eq_true rfl) (Nat.le_of_ble_eq_true rfl) dX3_become_118 (fun H locs hP hD hS => ?_)
  have hP : PP G (wb G h k (oA (oA (oA (oI (oA (oA (oA (oA (oI w 0 (w2.1 0)) 1 (va_cpy (w2.2 1) (w.2 1) 0 0 24)) 2 (va_cpy (w2.2 2) (w.2 2) 0 0 24)) 3 (va_cpy (w2.2 3) (w.2 3) 0 0 24)) 4 (va_cpy (w2.2 4) (w.2 4) 0 0 24)) 5 (w2.1 5)) 6 (va_cpy (w2.2 6) (w.2 6) 0 0 120)) 7 (va_cpy (w2.2 7) (w.2 7) 0 0 120)) 8 (va_cpy (w2.2 8) (w.2 8) 0 0 120)) w2) H := hP
  have hD : va_D A (wb G h k (oA (oA (oA (oI (oA (oA (oA (oA (oI w 0 (w2.1 0)) 1 (va_cpy (w2.2 1) (w.2 1) 0 0 24)) 2 (va_cpy (w2.2 2) (w.2 2) 0 0 24)) 3 (va_cpy (w2.2 3) (w.2 3) 0 0 24)) 4 (va_cpy (w2.2 4) (w.2 4) 0 0 24)) 5 (w2.1 5)) 6 (va_cpy (w2.2 6) (w.2 6) 0 0 120)) 7 (va_cpy (w2.2 7) (w.2 7) 0 0 120)) 8 (va_cpy (w2.2 8) (w.2 8) 0 0 120)) w2) := hD
  exact W.vret hx hb hr (fun t ht hW => ⟨⟨(oA (oA (oA (oI (oA (oA (oA (oA (oI w 0 (w2.1 0)) 1 (va_cpy (w2.2 1) (w.2 1) 0 0 24)) 2 (va_cpy (w2.2 2) (w.2 2) 0 0 24)) 3 (va_cpy (w2.2 3) (w.2 3) 0 0 24)) 4 (va_cpy (w2.2 4) (w.2 4) 0 0 24)) 5 (w2.1 5)) 6 (va_cpy (w2.2 6) (w.2 6) 0 0 120)) 7 (va_cpy (w2.2 7) (w.2 7) 0 0 120)) 8 (va_cpy (w2.2 8) (w.2 8) 0 0 120), w2), rfl, ⟨_, rfl, rfl, rfl, cpy_all _ _ _, cpy_all _ _ _, cpy_all _ _ _, cpy_all _ _ _, cpy_all _ _ _, cpy_all _ _ _, cpy_all _ _ _⟩, show PP G (wb G h k (oA (oA (oA (oI (oA (oA (oA (oA (oI w 0 (w2.1 0)) 1 (va_cpy (w2.2 1) (w.2 1) 0 0 24)) 2 (va_cpy (w2.2 2) (w.2 2) 0 0 24)) 3 (va_cpy (w2.2 3) (w.2 3) 0 0 24)) 4 (va_cpy (w2.2 4) (w.2 4) 0 0 24)) 5 (w2.1 5)) 6 (va_cpy (w2.2 6) (w.2 6) 0 0 120)) 7 (va_cpy (w2.2 7) (w.2 7) 0 0 120)) 8 (va_cpy (w2.2 8) (w.2 8) 0 0 120)) w2) t.heap by rw [ht]; exact hP⟩, hS.F ht⟩) hS.2.2 dX3_become_121
