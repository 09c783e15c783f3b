set_option maxHeartbeats 1000000 in
set_option maxRecDepth 100000 in
theorem mt_X5_here (l : Launch) (G : gG) (h : Nat → Nat) (sz : Nat) (u : oS) (lt : Int64) (sj : Nat → Int64) (nt : Nat) (a0 : Nat) (tx : Nat → Int32) (hnt : u.1 10 = nI nt) (ha0 : u.1 12 = nI a0) (hnt240 : nt ≤ 240) (hAn : a0 ≤ nt) (htx : u.2 9 = tx) : Met l yX5_here wsX5_here ({ frames := 0, cells := 0, slots := 0, locals := 0 }) (preW G (mw G h u lt sj) sz [.ref (h 0)]) (va_Qi (fun (r : Int32) (v : oS × Int64 × (Nat → Int64)) => v = (oI u 12 (nI (sk tx nt a0)), lt, sj) ∧ r = hd tx nt (sk tx nt a0)) (fun v t => PP G (mw G h v.1 v.2.1 v.2.2) t.heap) (va_A (mw G h u lt sj) sz)) 0 0 (va_A (mw G h u lt sj) sz) := by
  refine Met.ofW (cc := cX5_here) (maxL := 1) (ret := (some .int)) (by decide) rfl ?_
  intro p e s m args below meth c s₁ B hml hv
  obtain ⟨ha, hsz, hP, hK, hN, hD0⟩ := hv
  subst ha
  have hx := B.exec
  have hb := B.bytes
  have hr := B.returns
  have hts := atoms_spec (ws := wsX5_here) B.pre
  have hown : s.vm.findClass RX5 = some m.cls := findClass_of_methodNamed B.named
  have hlocks := B.notSynchronized
  subst hsz
  have hD := hD0.self (sz := s.heap.size)
  generalize hAe : va_A (mw G h u lt sj) s.heap.size = A at hD ⊢
  have hA : ∀ q : Nat, s.heap.size ≤ q → A q := fun q h => by rw [← hAe]; exact Or.inr h
  clear hAe hD0
  have hS : va_S A s.heap s.heap [] := va_S.rf
  have hiX5 : ∀ w ∈ wsX50, w ∈ wsX5_here := fun w h9 => List.mem_cons_of_mem _ (List.mem_append_right _ (h9))
  have k105 := hts (.fieldLink RX5 105 "WovenHistoryModel" "at0" "I") (List.mem_of_getElem? (i := 1) rfl)
  have k101 := hts (.fieldLink RX5 101 "WovenHistoryModel" "texted" "I") (List.mem_of_getElem? (i := 2) rfl)
  have k28 := hts (.fieldLink RX5 28 "WovenHistoryModel" "text" "[I") (List.mem_of_getElem? (i := 3) rfl)
  have hl := lv_entry ([.ref (h 0)]) (n := 1) (Nat.le_of_ble_eq_true rfl)
  rw [lg_entry_eq]
  generalize (lg_sl ([.ref (h 0)]) ++ List.replicate (1 - (lg_sl ([.ref (h 0)])).length) Slot.unset).toArray = ls at hl ⊢
  have hl : lv_has ls 1 [(0, .ref (h 0))] := hl
  have hP : PP G (mw G h (oI u 12 (nI a0)) lt sj) s.heap := by rw [oI_self ha0]; exact hP
  have hD : va_D A (mw G h (oI u 12 (nI a0)) lt sj) := by rw [oI_self ha0]; exact hD
  have LP0 : ∀ (n0m : Nat), ∀ (b : Nat) (hab : a0 ≤ b) (hbn : b ≤ nt) (hsk : sk tx nt b = sk tx nt a0), (nt - b < n0m) → ∀ (H : Heap) (locs : List Loc) (ls : Array Slot), PP G (mw G h (oI u 12 (nI b)) lt sj) H → va_D A (mw G h (oI u 12 (nI b)) lt sj) → va_S A s.heap H locs → lv_has ls 1 [(0, .ref (h 0))] → W p l e (headSpec wsX5_here ({ frames := 0, cells := 0, slots := 0, locals := 0 })).room s m ([.ref (h 0)] : List Value).toArray below meth c H locs 0 0 (MQ below (va_Qi (fun (r : Int32) (v : oS × Int64 × (Nat → Int64)) => v = (oI u 12 (nI (sk tx nt a0)), lt, sj) ∧ r = hd tx nt (sk tx nt a0)) (fun v t => PP G (mw G h v.1 v.2.1 v.2.2) t.heap) A) ([.ref (h 0)] : List Value).toArray s 0 0 A) (F0 m 0 ls []) := by
    intro n0m
    induction n0m with
    | zero => intro b hab hbn hsk hmu H locs ls hP hD hS hl; exact absurd hmu (Nat.not_lt_zero _)
    | succ n0m ih0 =>
      intro b hab hbn hsk hmu H locs ls hP hD hS hl
      refine lv_aload_n hx hb dX5_here_0 rfl (lv_at hl 0 rfl) ?_
      refine va_get (D := gD G) (ci := 5) (v := .int (nI b)) (C := RX5) (T := TX5) (N := 38) hx hb hts hiX5 hown hK hP 0 rfl rfl 12 (by decide) k105 (fun _ h9 => h9) rfl dX5_here_1 ?_
      refine lv_aload_n hx hb dX5_here_4 rfl (lv_at hl 0 rfl) ?_
      refine va_get (D := gD G) (ci := 5) (v := .int ((oI u 12 (nI b)).1 10)) (C := RX5) (T := TX5) (N := 38) hx hb hts hiX5 hown hK hP 0 rfl rfl 10 (by decide) k101 (fun _ h9 => h9) rfl dX5_here_5 ?_
      refine topE hnt ?_
      refine lv_icmp_ge (tgt := 38) hx hb dX5_here_8 (by decide) (fun c8 => ?_) (fun c8 => ?_)
      · skip
        have n8 : nt ≤ b := (nI_leI (a := nt) (b := b) (by omega) (by omega)).mp c8
        have hq : sk tx nt a0 = b := rn_eq hsk (by first | exact fun q => absurd q.1 (by omega) | exact fun q => absurd q.2 (isB_f (by assumption)))
        refine lv_aload_n hx hb dX5_here_38 rfl (lv_at hl 0 rfl) ?_
        refine va_get (D := gD G) (ci := 5) (v := .int (nI b)) (C := RX5) (T := TX5) (N := 38) hx hb hts hiX5 hown hK hP 0 rfl rfl 12 (by decide) k105 (fun _ h9 => h9) rfl dX5_here_39 ?_
        refine lv_aload_n hx hb dX5_here_42 rfl (lv_at hl 0 rfl) ?_
        refine va_get (D := gD G) (ci := 5) (v := .int ((oI u 12 (nI b)).1 10)) (C := RX5) (T := TX5) (N := 38) hx hb hts hiX5 hown hK hP 0 rfl rfl 10 (by decide) k101 (fun _ h9 => h9) rfl dX5_here_43 ?_
        refine topE hnt ?_
        refine lv_icmp_ge (tgt := 61) hx hb dX5_here_46 (by decide) (fun c46 => ?_) (fun c46 => ?_)
        · skip
          have n46 : nt ≤ b := (nI_leI (a := nt) (b := b) (by omega) (by omega)).mp c46
          refine lv_iconst (v := (-1 : Int32)) hx hb dX5_here_61 (by decide) ?_
          exact W.iret (v := (-1 : Int32)) hx hb hr (fun t ht hW => ⟨⟨(-1 : Int32), (oI u 12 (nI b), lt, sj), rfl, ⟨by rw [hq], by rw [hq, hd_out (by omega)]⟩, show PP G (mw G h (oI u 12 (nI b)) lt sj) t.heap by rw [ht]; exact hP⟩, hS.F ht⟩) hS.2.2 dX5_here_62
        · skip
          have n46 : ¬ (nt ≤ b) := fun q9 => c46 ((nI_leI (a := nt) (b := b) (by omega) (by omega)).mpr q9)
          refine lv_aload_n hx hb dX5_here_49 rfl (lv_at hl 0 rfl) ?_
          refine va_get (D := gD G) (ci := 5) (v := .ref (h 9)) (C := RX5) (T := TX5) (N := 38) hx hb hts hiX5 hown hK hP 0 rfl rfl 9 (by decide) k28 (fun _ h9 => h9) rfl dX5_here_50 ?_
          refine lv_aload_n hx hb dX5_here_53 rfl (lv_at hl 0 rfl) ?_
          refine va_get (D := gD G) (ci := 5) (v := .int (nI b)) (C := RX5) (T := TX5) (N := 38) hx hb hts hiX5 hown hK hP 0 rfl rfl 12 (by decide) k105 (fun _ h9 => h9) rfl dX5_here_54 ?_
          refine ialdN (f := u.2 9) (n := 240) (k := b) hx hb hK hP 7 rfl rfl (by omega) dX5_here_57 ?_
          refine topE (congrFun htx _) ?_
          refine lv_goto (tgt := 62) hx hb dX5_here_58 (by decide) ?_
          exact W.iret (v := tx b) hx hb hr (fun t ht hW => ⟨⟨tx b, (oI u 12 (nI b), lt, sj), rfl, ⟨by rw [hq], by rw [hq, hd_in (by omega)]⟩, show PP G (mw G h (oI u 12 (nI b)) lt sj) t.heap by rw [ht]; exact hP⟩, hS.F ht⟩) hS.2.2 dX5_here_62
      · skip
        have n8 : ¬ (nt ≤ b) := fun q9 => c8 ((nI_leI (a := nt) (b := b) (by omega) (by omega)).mpr q9)
        refine lv_aload_n hx hb dX5_here_11 rfl (lv_at hl 0 rfl) ?_
        refine va_get (D := gD G) (ci := 5) (v := .ref (h 9)) (C := RX5) (T := TX5) (N := 38) hx hb hts hiX5 hown hK hP 0 rfl rfl 9 (by decide) k28 (fun _ h9 => h9) rfl dX5_here_12 ?_
        refine lv_aload_n hx hb dX5_here_15 rfl (lv_at hl 0 rfl) ?_
        refine va_get (D := gD G) (ci := 5) (v := .int (nI b)) (C := RX5) (T := TX5) (N := 38) hx hb hts hiX5 hown hK hP 0 rfl rfl 12 (by decide) k105 (fun _ h9 => h9) rfl dX5_here_16 ?_
        refine ialdN (f := u.2 9) (n := 240) (k := b) hx hb hK hP 7 rfl rfl (by omega) dX5_here_19 ?_
        refine topE (congrFun htx _) ?_
        refine lv_bipush (v := nI 32) hx hb dX5_here_20 (by decide) ?_
        refine lv_icmp_ne (tgt := 38) hx hb dX5_here_22 (by decide) (fun c22 => ?_) (fun c22 => ?_)
        · skip
          have hq : sk tx nt a0 = b := rn_eq hsk (by first | exact fun q => absurd q.1 (by omega) | exact fun q => absurd q.2 (isB_f (by assumption)))
          refine lv_aload_n hx hb dX5_here_38 rfl (lv_at hl 0 rfl) ?_
          refine va_get (D := gD G) (ci := 5) (v := .int (nI b)) (C := RX5) (T := TX5) (N := 38) hx hb hts hiX5 hown hK hP 0 rfl rfl 12 (by decide) k105 (fun _ h9 => h9) rfl dX5_here_39 ?_
          refine lv_aload_n hx hb dX5_here_42 rfl (lv_at hl 0 rfl) ?_
          refine va_get (D := gD G) (ci := 5) (v := .int ((oI u 12 (nI b)).1 10)) (C := RX5) (T := TX5) (N := 38) hx hb hts hiX5 hown hK hP 0 rfl rfl 10 (by decide) k101 (fun _ h9 => h9) rfl dX5_here_43 ?_
          refine topE hnt ?_
          refine lv_icmp_ge (tgt := 61) hx hb dX5_here_46 (by decide) (fun c46 => ?_) (fun c46 => ?_)
          · skip
            have n46 : nt ≤ b := (nI_leI (a := nt) (b := b) (by omega) (by omega)).mp c46
            refine lv_iconst (v := (-1 : Int32)) hx hb dX5_here_61 (by decide) ?_
            exact W.iret (v := (-1 : Int32)) hx hb hr (fun t ht hW => ⟨⟨(-1 : Int32), (oI u 12 (nI b), lt, sj), rfl, ⟨by rw [hq], by rw [hq, hd_out (by omega)]⟩, show PP G (mw G h (oI u 12 (nI b)) lt sj) t.heap by rw [ht]; exact hP⟩, hS.F ht⟩) hS.2.2 dX5_here_62
          · skip
            have n46 : ¬ (nt ≤ b) := fun q9 => c46 ((nI_leI (a := nt) (b := b) (by omega) (by omega)).mpr q9)
            refine lv_aload_n hx hb dX5_here_49 rfl (lv_at hl 0 rfl) ?_
            refine va_get (D := gD G) (ci := 5) (v := .ref (h 9)) (C := RX5) (T := TX5) (N := 38) hx hb hts hiX5 hown hK hP 0 rfl rfl 9 (by decide) k28 (fun _ h9 => h9) rfl dX5_here_50 ?_
            refine lv_aload_n hx hb dX5_here_53 rfl (lv_at hl 0 rfl) ?_
            refine va_get (D := gD G) (ci := 5) (v := .int (nI b)) (C := RX5) (T := TX5) (N := 38) hx hb hts hiX5 hown hK hP 0 rfl rfl 12 (by decide) k105 (fun _ h9 => h9) rfl dX5_here_54 ?_
            refine ialdN (f := u.2 9) (n := 240) (k := b) hx hb hK hP 7 rfl rfl (by omega) dX5_here_57 ?_
            refine topE (congrFun htx _) ?_
            refine lv_goto (tgt := 62) hx hb dX5_here_58 (by decide) ?_
            exact W.iret (v := tx b) hx hb hr (fun t ht hW => ⟨⟨tx b, (oI u 12 (nI b), lt, sj), rfl, ⟨by rw [hq], by rw [hq, hd_in (by omega)]⟩, show PP G (mw G h (oI u 12 (nI b)) lt sj) t.heap by rw [ht]; exact hP⟩, hS.F ht⟩) hS.2.2 dX5_here_62
        · skip
          refine lv_aload_n hx hb dX5_here_25 rfl (lv_at hl 0 rfl) ?_
          refine lv_dup hx hb dX5_here_26 rfl ?_
          refine va_get (D := gD G) (ci := 5) (v := .int (nI b)) (C := RX5) (T := TX5) (N := 38) hx hb hts hiX5 hown hK hP 0 rfl rfl 12 (by decide) k105 (fun _ h9 => h9) rfl dX5_here_27 ?_
          refine lv_iconst (v := nI 1) hx hb dX5_here_30 (by decide) ?_
          refine lv_iadd hx hb dX5_here_31 ?_
          refine topE (y := nI (b + 1)) (nI_add b 1) ?_
          refine va_put (D := gD G) (ci := 5) (v := .int (nI (b + 1))) (ty := .int) (C := RX5) (T := TX5) (N := 38) hx hb hts hiX5 tyX5 tyX5_ok nmX5 hown hK hP hD hS 0 rfl rfl 12 (by decide) k105 (fun _ h9 => h9) rfl (tyX5_ok 12 (by decide)) (rfl) (rfl) (Nat.le_of_ble_eq_true rfl) dX5_here_32 (fun H locs hP hD hS => ?_)
          have hP : PP G (mw G h (oI (oI u 12 (nI b)) 12 (nI (b + 1))) lt sj) H := hP
          have hD : va_D A (mw G h (oI (oI u 12 (nI b)) 12 (nI (b + 1))) lt sj) := hD
          refine lv_goto (tgt := 0) hx hb dX5_here_35 (by decide) ?_
          exact ih0 (b + 1) (by first | assumption | omega) (by first | assumption | omega) ((rn_s (by omega) (isB_t c22)).trans hsk) (by omega) _ _ ls hP hD hS (lv_sub hl [0] rfl)
  exact LP0 (nt - a0 + 1) a0 (by first | assumption | omega) (by first | assumption | omega) (rfl) (Nat.lt_succ_self _) _ _ ls hP hD hS (lv_sub hl [0] rfl)
set_option maxHeartbeats 1000000 in
set_option maxRecDepth 100000 in
theorem mt_X5_fails (l : Launch) (G : gG) (h : Nat → Nat) (sz : Nat) (u : oS) (lt : Int64) (sj : Nat → Int64) (n0 : Int32) (x : Int32) : Met l yX5_fails wsX5_fails ({ frames := 0, cells := 0, slots := 0, locals := 0 }) (preW G (mw G h u lt sj) sz [.ref (h 0), .int n0, .int x]) (va_Qi (fun (r : Int32) (v : oS × Int64 × (Nat → Int64)) => v = (oI u 11 x, lt, sj) ∧ r = n0) (fun v t => PP G (mw G h v.1 v.2.1 v.2.2) t.heap) (va_A (mw G h u lt sj) sz)) 0 0 (va_A (mw G h u lt sj) sz) := by
  refine Met.ofW (cc := cX5_fails) (maxL := 3) (ret := (some .int)) (by decide) rfl ?_
  intro p e s m args below meth c s₁ B hml hv
  obtain ⟨ha, hsz, hP, hK, hN, hD0⟩ := hv
  subst ha
  have hx := B.exec
  have hb := B.bytes
  have hr := B.returns
  have hts := atoms_spec (ws := wsX5_fails) B.pre
  have hown : s.vm.findClass RX5 = some m.cls := findClass_of_methodNamed B.named
  have hlocks := B.notSynchronized
  subst hsz
  have hD := hD0.self (sz := s.heap.size)
  generalize hAe : va_A (mw G h u lt sj) s.heap.size = A at hD ⊢
  have hA : ∀ q : Nat, s.heap.size ≤ q → A q := fun q h => by rw [← hAe]; exact Or.inr h
  clear hAe hD0
  have hS : va_S A s.heap s.heap [] := va_S.rf
  have hiX5 : ∀ w ∈ wsX50, w ∈ wsX5_fails := fun w h9 => List.mem_cons_of_mem _ (List.mem_append_right _ (h9))
  have k31 := hts (.fieldLink RX5 31 "WovenHistoryModel" "faultPlace" "I") (List.mem_of_getElem? (i := 1) rfl)
  have hl := lv_entry ([.ref (h 0), .int n0, .int x]) (n := 3) (Nat.le_of_ble_eq_true rfl)
  rw [lg_entry_eq]
  generalize (lg_sl ([.ref (h 0), .int n0, .int x]) ++ List.replicate (3 - (lg_sl ([.ref (h 0), .int n0, .int x])).length) Slot.unset).toArray = ls at hl ⊢
  have hl : lv_has ls 3 [(0, .ref (h 0)), (1, .int n0), (2, .int x)] := hl
  refine lv_aload_n hx hb dX5_fails_0 rfl (lv_at hl 0 rfl) ?_
  refine lv_iload_n hx hb dX5_fails_1 rfl (lv_at hl 2 rfl) ?_
  refine va_put (D := gD G) (ci := 5) (v := .int x) (ty := .int) (C := RX5) (T := TX5) (N := 38) hx hb hts hiX5 tyX5 tyX5_ok nmX5 hown hK hP hD hS 0 rfl rfl 11 (by decide) k31 (fun _ h9 => h9) rfl (tyX5_ok 11 (by decide)) (rfl) (rfl) (Nat.le_of_ble_eq_true rfl) dX5_fails_2 (fun H locs hP hD hS => ?_)
  have hP : PP G (mw G h (oI u 11 x) lt sj) H := hP
  have hD : va_D A (mw G h (oI u 11 x) lt sj) := hD
  refine lv_iload_n hx hb dX5_fails_5 rfl (lv_at hl 1 rfl) ?_
  exact W.iret (v := n0) hx hb hr (fun t ht hW => ⟨⟨n0, (oI u 11 x, lt, sj), rfl, ⟨rfl, rfl⟩, show PP G (mw G h (oI u 11 x) lt sj) t.heap by rw [ht]; exact hP⟩, hS.F ht⟩) hS.2.2 dX5_fails_6
set_option maxHeartbeats 1000000 in
set_option maxRecDepth 100000 in
theorem mt_X5_takeNumber (l : Launch) (G : gG) (h : Nat → Nat) (sz : Nat) (u : oS) (lt : Int64) (sj : Nat → Int64) (nt : Nat) (a0 : Nat) (tx : Nat → Int32) (hnt : u.1 10 = nI nt) (ha0 : u.1 12 = nI a0) (hnt240 : nt ≤ 240) (hAn : a0 ≤ nt) (htx : u.2 9 = tx) : Met l yX5_takeNumber wsX5_takeNumber ({ frames := 1, cells := 0, slots := 0, locals := 25 }) (preW G (mw G h u lt sj) sz [.ref (h 0)]) (va_Qi (fun (r : Int32) (v : oS × Int64 × (Nat → Int64)) => (∃ w, v = (w, lt, sj) ∧ rdN u w ∧ w.1 12 = nI (nE tx nt a0) ∧ w.1 13 = nI (nV tx nt a0) ∧ w.1 14 = nI (sk tx nt a0) ∧ w.1 11 = u.1 11 ∧ nFl tx nt a0 = 0 ∧ r = nI 0) ∨ (∃ w, v = (w, lt, sj) ∧ rdN u w ∧ w.1 12 = nI (nE tx nt a0) ∧ w.1 11 = nI (sk tx nt a0) ∧ nFl tx nt a0 = 1 ∧ r = nI 1) ∨ (∃ w, v = (w, lt, sj) ∧ rdN u w ∧ w.1 12 = nI (nE tx nt a0) ∧ w.1 11 = nI (sk tx nt a0) ∧ nFl tx nt a0 = 2 ∧ r = nI 2)) (fun v t => PP G (mw G h v.1 v.2.1 v.2.2) t.heap) (va_A (mw G h u lt sj) sz)) 0 0 (va_A (mw G h u lt sj) sz) := by
  refine Met.ofW (cc := cX5_takeNumber) (maxL := 2) (ret := (some .int)) (by decide) rfl ?_
  intro p e s m args below meth c s₁ B hml hv
  obtain ⟨ha, hsz, hP, hK, hN, hD0⟩ := hv
  subst ha
  have hx := B.exec
  have hb := B.bytes
  have hr := B.returns
  have hts := atoms_spec (ws := wsX5_takeNumber) B.pre
  have hown : s.vm.findClass RX5 = some m.cls := findClass_of_methodNamed B.named
  have hlocks := B.notSynchronized
  subst hsz
  have hD := hD0.self (sz := s.heap.size)
  generalize hAe : va_A (mw G h u lt sj) s.heap.size = A at hD ⊢
  have hA : ∀ q : Nat, s.heap.size ≤ q → A q := fun q h => by rw [← hAe]; exact Or.inr h
  clear hAe hD0
  have hS : va_S A s.heap s.heap [] := va_S.rf
  have hiX5 : ∀ w ∈ wsX50, w ∈ wsX5_takeNumber := fun w h9 => List.mem_cons_of_mem _ (List.mem_append_right _ (h9))
  have k105 := hts (.fieldLink RX5 105 "WovenHistoryModel" "at0" "I") (List.mem_of_getElem? (i := 3) rfl)
  have k120 := hts (.fieldLink RX5 120 "WovenHistoryModel" "numberAt" "I") (List.mem_of_getElem? (i := 4) rfl)
  have k123 := hts (.fieldLink RX5 123 "WovenHistoryModel" "number" "I") (List.mem_of_getElem? (i := 5) rfl)
  have k101 := hts (.fieldLink RX5 101 "WovenHistoryModel" "texted" "I") (List.mem_of_getElem? (i := 6) rfl)
  have k28 := hts (.fieldLink RX5 28 "WovenHistoryModel" "text" "[I") (List.mem_of_getElem? (i := 7) rfl)
  have hl := lv_entry ([.ref (h 0)]) (n := 2) (Nat.le_of_ble_eq_true rfl)
  rw [lg_entry_eq]
  generalize (lg_sl ([.ref (h 0)]) ++ List.replicate (2 - (lg_sl ([.ref (h 0)])).length) Slot.unset).toArray = ls at hl ⊢
  have hl : lv_has ls 2 [(0, .ref (h 0))] := hl
  refine lv_aload_n hx hb dX5_takeNumber_0 rfl (lv_at hl 0 rfl) ?_
  refine cXi (As := []) (rest := []) (S := oS × Int64 × (Nat → Int64)) (wa := mw G h u lt sj) (w1 := fun v => mw G h v.1 v.2.1 v.2.2) ⟨hx, hb, hml, hown, hts⟩ (mt_X5_here l G h _ u lt sj nt a0 tx (hnt) (ha0) (by first | assumption | omega) (by first | assumption | omega) (htx)) (cwV 0 hts gX5_takeNumber_X5_here rfl rfl rfl ⟨rfl, hd_X5_here⟩ ⟨Nat.le_of_ble_eq_true rfl, Nat.le_of_ble_eq_true rfl⟩) hK hN hP hD hS hA (fun _ => rfl) 0 5 rfl rfl rfl hl.1 rfl (Nat.le_of_ble_eq_true rfl) ⟨Nat.zero_le _, Nat.zero_le _⟩ dX5_takeNumber_1 (fun r1 u1 H locs hw1 hP hD hS => ?_)
  obtain ⟨rfl, rfl⟩ := hw1
  have hP : PP G (mw G h (oI u 12 (nI (sk tx nt a0))) lt sj) H := hP
  have hD : va_D A (mw G h (oI u 12 (nI (sk tx nt a0))) lt sj) := hD
  have hge1 : a0 ≤ sk tx nt a0 := rn_ge _
  have hle1 : sk tx nt a0 ≤ nt := rn_le (by omega)
  refine lv_istore_n (lv' := [(1, .int (hd tx nt (sk tx nt a0))), (0, .ref (h 0))]) hx hb dX5_takeNumber_4 rfl hl (by decide) rfl (fun ls hl => ?_)
  refine lv_iload_n hx hb dX5_takeNumber_5 rfl (lv_at hl 0 rfl) ?_
  refine lv_i2l (v := (hd tx nt (sk tx nt a0)).toInt64) hx hb dX5_takeNumber_6 rfl ?_
  refine lv_ldc2 (v := 48) hx hb hown (hts (.constantLong RX5 112 (48)) (List.mem_of_getElem? (i := 1) rfl)) dX5_takeNumber_7 ?_
  refine lv_ldc2 (v := 57) hx hb hown (hts (.constantLong RX5 114 (57)) (List.mem_of_getElem? (i := 2) rfl)) dX5_takeNumber_10 ?_
  refine cSi (As := [.long ((hd tx nt (sk tx nt a0)).toInt64), .long 48, .long 57]) (rest := []) ⟨hx, hb, hml, hown, hts⟩ (mt_X5_in l ((hd tx nt (sk tx nt a0)).toInt64) 48 57) (va_cwS 3 hts gX5_takeNumber_X5_in rfl rfl rfl hd_X5_in ⟨Nat.le_of_ble_eq_true rfl, Nat.le_of_ble_eq_true rfl⟩) rfl hl.1 rfl (Nat.le_of_ble_eq_true rfl) ⟨Nat.zero_le _, Nat.zero_le _⟩ dX5_takeNumber_13 (fun r13 hw13 => ?_)
  rcases hw13 with ⟨rfl, ha13, hb13⟩ | ⟨rfl, hn13⟩
  · skip
    have hdg := dig_64.mpr ⟨ha13, hb13⟩
    have hbl := dig_hd hdg
    have hgt := nE_gt hdg
    refine lv_if_ne (tgt := 29) hx hb dX5_takeNumber_16 (by decide) (fun _ => ?_) (fun c9 => absurd c9 (by decide))
    refine lv_aload_n hx hb dX5_takeNumber_29 rfl (lv_at hl 1 rfl) ?_
    refine lv_aload_n hx hb dX5_takeNumber_30 rfl (lv_at hl 1 rfl) ?_
    refine va_get (D := gD G) (ci := 5) (v := .int (nI (sk tx nt a0))) (C := RX5) (T := TX5) (N := 38) hx hb hts hiX5 hown hK hP 0 rfl rfl 12 (by decide) k105 (fun _ h9 => h9) rfl dX5_takeNumber_31 ?_
    refine va_put (D := gD G) (ci := 5) (v := .int (nI (sk tx nt a0))) (ty := .int) (C := RX5) (T := TX5) (N := 38) hx hb hts hiX5 tyX5 tyX5_ok nmX5 hown hK hP hD hS 0 rfl rfl 14 (by decide) k120 (fun _ h9 => h9) rfl (tyX5_ok 14 (by decide)) (rfl) (rfl) (Nat.le_of_ble_eq_true rfl) dX5_takeNumber_34 (fun H locs hP hD hS => ?_)
    have hP : PP G (mw G h (oI (oI u 12 (nI (sk tx nt a0))) 14 (nI (sk tx nt a0))) lt sj) H := hP
    have hD : va_D A (mw G h (oI (oI u 12 (nI (sk tx nt a0))) 14 (nI (sk tx nt a0))) lt sj) := hD
    refine lv_aload_n hx hb dX5_takeNumber_37 rfl (lv_at hl 1 rfl) ?_
    refine lv_iconst (v := nI 0) hx hb dX5_takeNumber_38 (by decide) ?_
    refine va_put (D := gD G) (ci := 5) (v := .int (nI 0)) (ty := .int) (C := RX5) (T := TX5) (N := 38) hx hb hts hiX5 tyX5 tyX5_ok nmX5 hown hK hP hD hS 0 rfl rfl 13 (by decide) k123 (fun _ h9 => h9) rfl (tyX5_ok 13 (by decide)) (rfl) (rfl) (Nat.le_of_ble_eq_true rfl) dX5_takeNumber_39 (fun H locs hP hD hS => ?_)
    have hP : PP G (mw G h (oI (oI (oI u 12 (nI (sk tx nt a0))) 14 (nI (sk tx nt a0))) 13 (nI 0)) lt sj) H := hP
    have hD : va_D A (mw G h (oI (oI (oI u 12 (nI (sk tx nt a0))) 14 (nI (sk tx nt a0))) 13 (nI 0)) lt sj) := hD
    have LP42 : ∀ (n42m : Nat), ∀ (b : Nat) (n : Nat) (hbb : sk tx nt a0 ≤ b) (hbn : b ≤ nt) (hdgE : dg tx nt b = dg tx nt (sk tx nt a0)) (hv9 : b ≤ sk tx nt a0 + 1 → n ≤ 9) (hval : b ≤ sk tx nt a0 + 2 → n = val2 tx (sk tx nt a0) b) (hn : n ≤ 10009), (nt - b < n42m) → ∀ (H : Heap) (locs : List Loc) (ls : Array Slot), PP G (mw G h (oI (oI (oI u 14 (nI (sk tx nt a0))) 13 (nI n)) 12 (nI b)) lt sj) H → va_D A (mw G h (oI (oI (oI u 14 (nI (sk tx nt a0))) 13 (nI n)) 12 (nI b)) lt sj) → va_S A s.heap H locs → lv_has ls 2 [(0, .ref (h 0))] → W p l e (headSpec wsX5_takeNumber ({ frames := 1, cells := 0, slots := 0, locals := 25 })).room s m ([.ref (h 0)] : List Value).toArray below meth c H locs 0 0 (MQ below (va_Qi (fun (r : Int32) (v : oS × Int64 × (Nat → Int64)) => (∃ w, v = (w, lt, sj) ∧ rdN u w ∧ w.1 12 = nI (nE tx nt a0) ∧ w.1 13 = nI (nV tx nt a0) ∧ w.1 14 = nI (sk tx nt a0) ∧ w.1 11 = u.1 11 ∧ nFl tx nt a0 = 0 ∧ r = nI 0) ∨ (∃ w, v = (w, lt, sj) ∧ rdN u w ∧ w.1 12 = nI (nE tx nt a0) ∧ w.1 11 = nI (sk tx nt a0) ∧ nFl tx nt a0 = 1 ∧ r = nI 1) ∨ (∃ w, v = (w, lt, sj) ∧ rdN u w ∧ w.1 12 = nI (nE tx nt a0) ∧ w.1 11 = nI (sk tx nt a0) ∧ nFl tx nt a0 = 2 ∧ r = nI 2)) (fun v t => PP G (mw G h v.1 v.2.1 v.2.2) t.heap) A) ([.ref (h 0)] : List Value).toArray s 0 0 A) (F0 m 42 ls []) := by
      intro n42m
      induction n42m with
      | zero => intro b n hbb hbn hdgE hv9 hval hn hmu H locs ls hP hD hS hl; exact absurd hmu (Nat.not_lt_zero _)
      | succ n42m ih42 =>
        intro b n hbb hbn hdgE hv9 hval hn hmu H locs ls hP hD hS hl
        refine lv_aload_n hx hb dX5_takeNumber_42 rfl (lv_at hl 0 rfl) ?_
        refine va_get (D := gD G) (ci := 5) (v := .int (nI b)) (C := RX5) (T := TX5) (N := 38) hx hb hts hiX5 hown hK hP 0 rfl rfl 12 (by decide) k105 (fun _ h9 => h9) rfl dX5_takeNumber_43 ?_
        refine lv_aload_n hx hb dX5_takeNumber_46 rfl (lv_at hl 0 rfl) ?_
        refine va_get (D := gD G) (ci := 5) (v := .int ((oI (oI (oI u 14 (nI (sk tx nt a0))) 13 (nI n)) 12 (nI b)).1 10)) (C := RX5) (T := TX5) (N := 38) hx hb hts hiX5 hown hK hP 0 rfl rfl 10 (by decide) k101 (fun _ h9 => h9) rfl dX5_takeNumber_47 ?_
        refine topE hnt ?_
        refine lv_icmp_ge (tgt := 129) hx hb dX5_takeNumber_50 (by decide) (fun c50 => ?_) (fun c50 => ?_)
        · skip
          have n50 : nt ≤ b := (nI_leI (a := nt) (b := b) (by omega) (by omega)).mp c50
          have hE : nE tx nt a0 = b := rn_eq hdgE (by first | exact fun q => absurd q.1 (by omega) | exact fun q => absurd q.2 (dig_n hn69))
          have hV : b ≤ sk tx nt a0 + 2 → nV tx nt a0 = n := fun q => by unfold nV; rw [hE]; exact (hval q).symm
          have hgt2 := hgt
          rw [hE] at hgt2
          refine lv_aload_n hx hb dX5_takeNumber_129 rfl (lv_at hl 0 rfl) ?_
          refine va_get (D := gD G) (ci := 5) (v := .int (nI b)) (C := RX5) (T := TX5) (N := 38) hx hb hts hiX5 hown hK hP 0 rfl rfl 12 (by decide) k105 (fun _ h9 => h9) rfl dX5_takeNumber_130 ?_
          refine lv_aload_n hx hb dX5_takeNumber_133 rfl (lv_at hl 0 rfl) ?_
          refine va_get (D := gD G) (ci := 5) (v := .int (nI (sk tx nt a0))) (C := RX5) (T := TX5) (N := 38) hx hb hts hiX5 hown hK hP 0 rfl rfl 14 (by decide) k120 (fun _ h9 => h9) rfl dX5_takeNumber_134 ?_
          refine lv_isub hx hb dX5_takeNumber_137 ?_
          refine topE (y := nI (b - (sk tx nt a0))) (pk_sub (by omega)) ?_
          refine lv_iconst (v := nI 2) hx hb dX5_takeNumber_138 (by decide) ?_
          refine lv_icmp_le (tgt := 154) hx hb dX5_takeNumber_139 (by decide) (fun c139 => ?_) (fun c139 => ?_)
          · skip
            have n139 : (b - (sk tx nt a0)) ≤ 2 := (nI_leI (a := b - (sk tx nt a0)) (b := 2) (by omega) (by omega)).mp c139
            refine lv_iconst (v := nI 0) hx hb dX5_takeNumber_154 (by decide) ?_
            exact W.iret (v := nI 0) hx hb hr (fun t ht hW => ⟨⟨nI 0, (oI (oI (oI u 14 (nI (sk tx nt a0))) 13 (nI n)) 12 (nI b), lt, sj), rfl, Or.inl ⟨_, rfl, by repeat (first | exact rel.refl _ | exact rel.mono (by assumption) (by decide) (by decide) | refine rel.I (by decide) ?_ | refine rel.A (by decide) ?_ | refine rel.trans ?_ (rel.mono (by assumption) (by decide) (by decide))), by rw [hE]; rfl, by rw [hV (by omega)]; rfl, rfl, rfl, nF_0 (by rw [hE]; omega) (by rw [hE]; omega), rfl⟩, show PP G (mw G h (oI (oI (oI u 14 (nI (sk tx nt a0))) 13 (nI n)) 12 (nI b)) lt sj) t.heap by rw [ht]; exact hP⟩, hS.F ht⟩) hS.2.2 dX5_takeNumber_155
          · skip
            have n139 : ¬ ((b - (sk tx nt a0)) ≤ 2) := fun q9 => c139 ((nI_leI (a := b - (sk tx nt a0)) (b := 2) (by omega) (by omega)).mpr q9)
            refine lv_aload_n hx hb dX5_takeNumber_142 rfl (lv_at hl 0 rfl) ?_
            refine lv_iconst (v := nI 2) hx hb dX5_takeNumber_143 (by decide) ?_
            refine lv_aload_n hx hb dX5_takeNumber_144 rfl (lv_at hl 0 rfl) ?_
            refine va_get (D := gD G) (ci := 5) (v := .int (nI (sk tx nt a0))) (C := RX5) (T := TX5) (N := 38) hx hb hts hiX5 hown hK hP 0 rfl rfl 14 (by decide) k120 (fun _ h9 => h9) rfl dX5_takeNumber_145 ?_
            refine cXi (As := [.int (nI 2), .int (nI (sk tx nt a0))]) (rest := []) (S := oS × Int64 × (Nat → Int64)) (wa := mw G h (oI (oI (oI u 14 (nI (sk tx nt a0))) 13 (nI n)) 12 (nI b)) lt sj) (w1 := fun v => mw G h v.1 v.2.1 v.2.2) ⟨hx, hb, hml, hown, hts⟩ (mt_X5_fails l G h _ (oI (oI (oI u 14 (nI (sk tx nt a0))) 13 (nI n)) 12 (nI b)) lt sj (nI 2) (nI (sk tx nt a0))) (cwV 2 hts gX5_takeNumber_X5_fails rfl rfl rfl ⟨rfl, hd_X5_fails⟩ ⟨Nat.le_of_ble_eq_true rfl, Nat.le_of_ble_eq_true rfl⟩) hK hN hP hD hS hA (fun _ => rfl) 0 5 rfl rfl rfl hl.1 rfl (Nat.le_of_ble_eq_true rfl) ⟨Nat.zero_le _, Nat.zero_le _⟩ dX5_takeNumber_148 (fun r148 u148 H locs hw148 hP hD hS => ?_)
            obtain ⟨rfl, rfl⟩ := hw148
            have hP : PP G (mw G h (oI (oI (oI (oI u 14 (nI (sk tx nt a0))) 13 (nI n)) 12 (nI b)) 11 (nI (sk tx nt a0))) lt sj) H := hP
            have hD : va_D A (mw G h (oI (oI (oI (oI u 14 (nI (sk tx nt a0))) 13 (nI n)) 12 (nI b)) 11 (nI (sk tx nt a0))) lt sj) := hD
            refine lv_goto (tgt := 155) hx hb dX5_takeNumber_151 (by decide) ?_
            exact W.iret (v := nI 2) hx hb hr (fun t ht hW => ⟨⟨nI 2, (oI (oI (oI (oI u 14 (nI (sk tx nt a0))) 13 (nI n)) 12 (nI b)) 11 (nI (sk tx nt a0)), lt, sj), rfl, Or.inr (Or.inr ⟨_, rfl, by repeat (first | exact rel.refl _ | exact rel.mono (by assumption) (by decide) (by decide) | refine rel.I (by decide) ?_ | refine rel.A (by decide) ?_ | refine rel.trans ?_ (rel.mono (by assumption) (by decide) (by decide))), by rw [hE]; rfl, rfl, nF_2 (by rw [hE]; omega), rfl⟩), show PP G (mw G h (oI (oI (oI (oI u 14 (nI (sk tx nt a0))) 13 (nI n)) 12 (nI b)) 11 (nI (sk tx nt a0))) lt sj) t.heap by rw [ht]; exact hP⟩, hS.F ht⟩) hS.2.2 dX5_takeNumber_155
        · skip
          have n50 : ¬ (nt ≤ b) := fun q9 => c50 ((nI_leI (a := nt) (b := b) (by omega) (by omega)).mpr q9)
          refine lv_aload_n hx hb dX5_takeNumber_53 rfl (lv_at hl 0 rfl) ?_
          refine va_get (D := gD G) (ci := 5) (v := .ref (h 9)) (C := RX5) (T := TX5) (N := 38) hx hb hts hiX5 hown hK hP 0 rfl rfl 9 (by decide) k28 (fun _ h9 => h9) rfl dX5_takeNumber_54 ?_
          refine lv_aload_n hx hb dX5_takeNumber_57 rfl (lv_at hl 0 rfl) ?_
          refine va_get (D := gD G) (ci := 5) (v := .int (nI b)) (C := RX5) (T := TX5) (N := 38) hx hb hts hiX5 hown hK hP 0 rfl rfl 12 (by decide) k105 (fun _ h9 => h9) rfl dX5_takeNumber_58 ?_
          refine ialdN (f := u.2 9) (n := 240) (k := b) hx hb hK hP 7 rfl rfl (by omega) dX5_takeNumber_61 ?_
          refine topE (congrFun htx _) ?_
          refine lv_i2l (v := (tx b).toInt64) hx hb dX5_takeNumber_62 rfl ?_
          refine lv_ldc2 (v := 48) hx hb hown (hts (.constantLong RX5 112 (48)) (List.mem_of_getElem? (i := 1) rfl)) dX5_takeNumber_63 ?_
          refine lv_ldc2 (v := 57) hx hb hown (hts (.constantLong RX5 114 (57)) (List.mem_of_getElem? (i := 2) rfl)) dX5_takeNumber_66 ?_
          refine cSi (As := [.long ((tx b).toInt64), .long 48, .long 57]) (rest := []) ⟨hx, hb, hml, hown, hts⟩ (mt_X5_in l ((tx b).toInt64) 48 57) (va_cwS 3 hts gX5_takeNumber_X5_in rfl rfl rfl hd_X5_in ⟨Nat.le_of_ble_eq_true rfl, Nat.le_of_ble_eq_true rfl⟩) rfl hl.1 rfl (Nat.le_of_ble_eq_true rfl) ⟨Nat.zero_le _, Nat.zero_le _⟩ dX5_takeNumber_69 (fun r69 hw69 => ?_)
          rcases hw69 with ⟨rfl, ha69, hb69⟩ | ⟨rfl, hn69⟩
          · skip
            obtain ⟨d69, hd1, hd2, ed69⟩ := rng_y (a := 48) (b := 57) (by decide) (by decide) (by omega) ha69 hb69
            have hdb := dig_64.mpr ⟨ha69, hb69⟩
            refine lv_if_eq (tgt := 129) hx hb dX5_takeNumber_72 (by decide) (fun c9 => absurd c9 (by decide)) (fun _ => ?_)
            refine lv_aload_n hx hb dX5_takeNumber_75 rfl (lv_at hl 0 rfl) ?_
            refine lv_aload_n hx hb dX5_takeNumber_76 rfl (lv_at hl 0 rfl) ?_
            refine va_get (D := gD G) (ci := 5) (v := .int (nI n)) (C := RX5) (T := TX5) (N := 38) hx hb hts hiX5 hown hK hP 0 rfl rfl 13 (by decide) k123 (fun _ h9 => h9) rfl dX5_takeNumber_77 ?_
            refine lv_sipush (v := nI 1000) hx hb dX5_takeNumber_80 (by decide) ?_
            refine lv_icmp_le (tgt := 93) hx hb dX5_takeNumber_83 (by decide) (fun c83 => ?_) (fun c83 => ?_)
            · skip
              have n83 : n ≤ 1000 := (nI_leI (a := n) (b := 1000) (by omega) (by omega)).mp c83
              refine lv_bipush (v := nI 10) hx hb dX5_takeNumber_93 (by decide) ?_
              refine lv_aload_n hx hb dX5_takeNumber_95 rfl (lv_at hl 0 rfl) ?_
              refine va_get (D := gD G) (ci := 5) (v := .int (nI n)) (C := RX5) (T := TX5) (N := 38) hx hb hts hiX5 hown hK hP 0 rfl rfl 13 (by decide) k123 (fun _ h9 => h9) rfl dX5_takeNumber_96 ?_
              refine lv_imul hx hb dX5_takeNumber_99 ?_
              refine topE (y := nI (10 * n)) (pk_mul 10 n) ?_
              refine lv_aload_n hx hb dX5_takeNumber_100 rfl (lv_at hl 0 rfl) ?_
              refine va_get (D := gD G) (ci := 5) (v := .ref (h 9)) (C := RX5) (T := TX5) (N := 38) hx hb hts hiX5 hown hK hP 0 rfl rfl 9 (by decide) k28 (fun _ h9 => h9) rfl dX5_takeNumber_101 ?_
              refine lv_aload_n hx hb dX5_takeNumber_104 rfl (lv_at hl 0 rfl) ?_
              refine va_get (D := gD G) (ci := 5) (v := .int (nI b)) (C := RX5) (T := TX5) (N := 38) hx hb hts hiX5 hown hK hP 0 rfl rfl 12 (by decide) k105 (fun _ h9 => h9) rfl dX5_takeNumber_105 ?_
              refine ialdN (f := u.2 9) (n := 240) (k := b) hx hb hK hP 7 rfl rfl (by omega) dX5_takeNumber_108 ?_
              refine topE (congrFun htx _) ?_
              refine topE ed69 ?_
              refine lv_iadd hx hb dX5_takeNumber_109 ?_
              refine topE (y := nI ((10 * n) + d69)) (nI_add (10 * n) d69) ?_
              refine lv_bipush (v := nI 48) hx hb dX5_takeNumber_110 (by decide) ?_
              refine lv_isub hx hb dX5_takeNumber_112 ?_
              refine topE (y := nI (((10 * n) + d69) - 48)) (pk_sub (by omega)) ?_
              refine va_put (D := gD G) (ci := 5) (v := .int (nI (((10 * n) + d69) - 48))) (ty := .int) (C := RX5) (T := TX5) (N := 38) hx hb hts hiX5 tyX5 tyX5_ok nmX5 hown hK hP hD hS 0 rfl rfl 13 (by decide) k123 (fun _ h9 => h9) rfl (tyX5_ok 13 (by decide)) (rfl) (rfl) (Nat.le_of_ble_eq_true rfl) dX5_takeNumber_113 (fun H locs hP hD hS => ?_)
              have hP : PP G (mw G h (oI (oI (oI (oI u 14 (nI (sk tx nt a0))) 13 (nI n)) 12 (nI b)) 13 (nI (((10 * n) + d69) - 48))) lt sj) H := hP
              have hD : va_D A (mw G h (oI (oI (oI (oI u 14 (nI (sk tx nt a0))) 13 (nI n)) 12 (nI b)) 13 (nI (((10 * n) + d69) - 48))) lt sj) := hD
              refine lv_aload_n hx hb dX5_takeNumber_116 rfl (lv_at hl 0 rfl) ?_
              refine lv_dup hx hb dX5_takeNumber_117 rfl ?_
              refine va_get (D := gD G) (ci := 5) (v := .int (nI b)) (C := RX5) (T := TX5) (N := 38) hx hb hts hiX5 hown hK hP 0 rfl rfl 12 (by decide) k105 (fun _ h9 => h9) rfl dX5_takeNumber_118 ?_
              refine lv_iconst (v := nI 1) hx hb dX5_takeNumber_121 (by decide) ?_
              refine lv_iadd hx hb dX5_takeNumber_122 ?_
              refine topE (y := nI (b + 1)) (nI_add b 1) ?_
              refine va_put (D := gD G) (ci := 5) (v := .int (nI (b + 1))) (ty := .int) (C := RX5) (T := TX5) (N := 38) hx hb hts hiX5 tyX5 tyX5_ok nmX5 hown hK hP hD hS 0 rfl rfl 12 (by decide) k105 (fun _ h9 => h9) rfl (tyX5_ok 12 (by decide)) (rfl) (rfl) (Nat.le_of_ble_eq_true rfl) dX5_takeNumber_123 (fun H locs hP hD hS => ?_)
              have hP : PP G (mw G h (oI (oI (oI (oI (oI u 14 (nI (sk tx nt a0))) 13 (nI n)) 12 (nI b)) 13 (nI (((10 * n) + d69) - 48))) 12 (nI (b + 1))) lt sj) H := hP
              have hD : va_D A (mw G h (oI (oI (oI (oI (oI u 14 (nI (sk tx nt a0))) 13 (nI n)) 12 (nI b)) 13 (nI (((10 * n) + d69) - 48))) 12 (nI (b + 1))) lt sj) := hD
              refine lv_goto (tgt := 42) hx hb dX5_takeNumber_126 (by decide) ?_
              exact ih42 (b + 1) (((10 * n) + d69) - 48) (by first | assumption | omega) (by first | assumption | omega) ((rn_s (by omega) hdb).trans hdgE) (fun q9 => by first | (have := hv9 (by omega); omega) | (have h1 := hval (by omega); rw [show b = sk tx nt a0 by omega, val2_0] at h1; omega)) (fun q9 => by first | (have := hv9 (by omega); omega) | (rw [val2_s (by omega) (by omega), dv_n (d := d69) (by omega) ed69, ← hval (by omega)]; omega)) (by first | assumption | omega) (by omega) _ _ ls hP hD hS (lv_sub hl [0] rfl)
            · skip
              have n83 : ¬ (n ≤ 1000) := fun q9 => c83 ((nI_leI (a := n) (b := 1000) (by omega) (by omega)).mpr q9)
              refine lv_aload_n hx hb dX5_takeNumber_86 rfl (lv_at hl 0 rfl) ?_
              refine va_get (D := gD G) (ci := 5) (v := .int (nI n)) (C := RX5) (T := TX5) (N := 38) hx hb hts hiX5 hown hK hP 0 rfl rfl 13 (by decide) k123 (fun _ h9 => h9) rfl dX5_takeNumber_87 ?_
              refine lv_goto (tgt := 113) hx hb dX5_takeNumber_90 (by decide) ?_
              refine va_put (D := gD G) (ci := 5) (v := .int (nI n)) (ty := .int) (C := RX5) (T := TX5) (N := 38) hx hb hts hiX5 tyX5 tyX5_ok nmX5 hown hK hP hD hS 0 rfl rfl 13 (by decide) k123 (fun _ h9 => h9) rfl (tyX5_ok 13 (by decide)) (rfl) (rfl) (Nat.le_of_ble_eq_true rfl) dX5_takeNumber_113 (fun H locs hP hD hS => ?_)
              have hP : PP G (mw G h (oI (oI (oI (oI u 14 (nI (sk tx nt a0))) 13 (nI n)) 12 (nI b)) 13 (nI n)) lt sj) H := hP
              have hD : va_D A (mw G h (oI (oI (oI (oI u 14 (nI (sk tx nt a0))) 13 (nI n)) 12 (nI b)) 13 (nI n)) lt sj) := hD
              refine lv_aload_n hx hb dX5_takeNumber_116 rfl (lv_at hl 0 rfl) ?_
              refine lv_dup hx hb dX5_takeNumber_117 rfl ?_
              refine va_get (D := gD G) (ci := 5) (v := .int (nI b)) (C := RX5) (T := TX5) (N := 38) hx hb hts hiX5 hown hK hP 0 rfl rfl 12 (by decide) k105 (fun _ h9 => h9) rfl dX5_takeNumber_118 ?_
              refine lv_iconst (v := nI 1) hx hb dX5_takeNumber_121 (by decide) ?_
              refine lv_iadd hx hb dX5_takeNumber_122 ?_
              refine topE (y := nI (b + 1)) (nI_add b 1) ?_
              refine va_put (D := gD G) (ci := 5) (v := .int (nI (b + 1))) (ty := .int) (C := RX5) (T := TX5) (N := 38) hx hb hts hiX5 tyX5 tyX5_ok nmX5 hown hK hP hD hS 0 rfl rfl 12 (by decide) k105 (fun _ h9 => h9) rfl (tyX5_ok 12 (by decide)) (rfl) (rfl) (Nat.le_of_ble_eq_true rfl) dX5_takeNumber_123 (fun H locs hP hD hS => ?_)
              have hP : PP G (mw G h (oI (oI (oI (oI (oI u 14 (nI (sk tx nt a0))) 13 (nI n)) 12 (nI b)) 13 (nI n)) 12 (nI (b + 1))) lt sj) H := hP
              have hD : va_D A (mw G h (oI (oI (oI (oI (oI u 14 (nI (sk tx nt a0))) 13 (nI n)) 12 (nI b)) 13 (nI n)) 12 (nI (b + 1))) lt sj) := hD
              refine lv_goto (tgt := 42) hx hb dX5_takeNumber_126 (by decide) ?_
              exact ih42 (b + 1) n (by first | assumption | omega) (by first | assumption | omega) ((rn_s (by omega) hdb).trans hdgE) (fun q9 => by first | (have := hv9 (by omega); omega) | (have h1 := hval (by omega); rw [show b = sk tx nt a0 by omega, val2_0] at h1; omega)) (fun q9 => by first | (have := hv9 (by omega); omega) | (rw [val2_s (by omega) (by omega), dv_n (d := d69) (by omega) ed69, ← hval (by omega)]; omega)) (by first | assumption | omega) (by omega) _ _ ls hP hD hS (lv_sub hl [0] rfl)
          · skip
            refine lv_if_eq (tgt := 129) hx hb dX5_takeNumber_72 (by decide) (fun _ => ?_) (fun c9 => absurd (by decide) c9)
            have hE : nE tx nt a0 = b := rn_eq hdgE (by first | exact fun q => absurd q.1 (by omega) | exact fun q => absurd q.2 (dig_n hn69))
            have hV : b ≤ sk tx nt a0 + 2 → nV tx nt a0 = n := fun q => by unfold nV; rw [hE]; exact (hval q).symm
            have hgt2 := hgt
            rw [hE] at hgt2
            refine lv_aload_n hx hb dX5_takeNumber_129 rfl (lv_at hl 0 rfl) ?_
            refine va_get (D := gD G) (ci := 5) (v := .int (nI b)) (C := RX5) (T := TX5) (N := 38) hx hb hts hiX5 hown hK hP 0 rfl rfl 12 (by decide) k105 (fun _ h9 => h9) rfl dX5_takeNumber_130 ?_
            refine lv_aload_n hx hb dX5_takeNumber_133 rfl (lv_at hl 0 rfl) ?_
            refine va_get (D := gD G) (ci := 5) (v := .int (nI (sk tx nt a0))) (C := RX5) (T := TX5) (N := 38) hx hb hts hiX5 hown hK hP 0 rfl rfl 14 (by decide) k120 (fun _ h9 => h9) rfl dX5_takeNumber_134 ?_
            refine lv_isub hx hb dX5_takeNumber_137 ?_
            refine topE (y := nI (b - (sk tx nt a0))) (pk_sub (by omega)) ?_
            refine lv_iconst (v := nI 2) hx hb dX5_takeNumber_138 (by decide) ?_
            refine lv_icmp_le (tgt := 154) hx hb dX5_takeNumber_139 (by decide) (fun c139 => ?_) (fun c139 => ?_)
            · skip
              have n139 : (b - (sk tx nt a0)) ≤ 2 := (nI_leI (a := b - (sk tx nt a0)) (b := 2) (by omega) (by omega)).mp c139
              refine lv_iconst (v := nI 0) hx hb dX5_takeNumber_154 (by decide) ?_
              exact W.iret (v := nI 0) hx hb hr (fun t ht hW => ⟨⟨nI 0, (oI (oI (oI u 14 (nI (sk tx nt a0))) 13 (nI n)) 12 (nI b), lt, sj), rfl, Or.inl ⟨_, rfl, by repeat (first | exact rel.refl _ | exact rel.mono (by assumption) (by decide) (by decide) | refine rel.I (by decide) ?_ | refine rel.A (by decide) ?_ | refine rel.trans ?_ (rel.mono (by assumption) (by decide) (by decide))), by rw [hE]; rfl, by rw [hV (by omega)]; rfl, rfl, rfl, nF_0 (by rw [hE]; omega) (by rw [hE]; omega), rfl⟩, show PP G (mw G h (oI (oI (oI u 14 (nI (sk tx nt a0))) 13 (nI n)) 12 (nI b)) lt sj) t.heap by rw [ht]; exact hP⟩, hS.F ht⟩) hS.2.2 dX5_takeNumber_155
            · skip
              have n139 : ¬ ((b - (sk tx nt a0)) ≤ 2) := fun q9 => c139 ((nI_leI (a := b - (sk tx nt a0)) (b := 2) (by omega) (by omega)).mpr q9)
              refine lv_aload_n hx hb dX5_takeNumber_142 rfl (lv_at hl 0 rfl) ?_
              refine lv_iconst (v := nI 2) hx hb dX5_takeNumber_143 (by decide) ?_
              refine lv_aload_n hx hb dX5_takeNumber_144 rfl (lv_at hl 0 rfl) ?_
              refine va_get (D := gD G) (ci := 5) (v := .int (nI (sk tx nt a0))) (C := RX5) (T := TX5) (N := 38) hx hb hts hiX5 hown hK hP 0 rfl rfl 14 (by decide) k120 (fun _ h9 => h9) rfl dX5_takeNumber_145 ?_
              refine cXi (As := [.int (nI 2), .int (nI (sk tx nt a0))]) (rest := []) (S := oS × Int64 × (Nat → Int64)) (wa := mw G h (oI (oI (oI u 14 (nI (sk tx nt a0))) 13 (nI n)) 12 (nI b)) lt sj) (w1 := fun v => mw G h v.1 v.2.1 v.2.2) ⟨hx, hb, hml, hown, hts⟩ (mt_X5_fails l G h _ (oI (oI (oI u 14 (nI (sk tx nt a0))) 13 (nI n)) 12 (nI b)) lt sj (nI 2) (nI (sk tx nt a0))) (cwV 2 hts gX5_takeNumber_X5_fails rfl rfl rfl ⟨rfl, hd_X5_fails⟩ ⟨Nat.le_of_ble_eq_true rfl, Nat.le_of_ble_eq_true rfl⟩) hK hN hP hD hS hA (fun _ => rfl) 0 5 rfl rfl rfl hl.1 rfl (Nat.le_of_ble_eq_true rfl) ⟨Nat.zero_le _, Nat.zero_le _⟩ dX5_takeNumber_148 (fun r148 u148 H locs hw148 hP hD hS => ?_)
              obtain ⟨rfl, rfl⟩ := hw148
              have hP : PP G (mw G h (oI (oI (oI (oI u 14 (nI (sk tx nt a0))) 13 (nI n)) 12 (nI b)) 11 (nI (sk tx nt a0))) lt sj) H := hP
              have hD : va_D A (mw G h (oI (oI (oI (oI u 14 (nI (sk tx nt a0))) 13 (nI n)) 12 (nI b)) 11 (nI (sk tx nt a0))) lt sj) := hD
              refine lv_goto (tgt := 155) hx hb dX5_takeNumber_151 (by decide) ?_
              exact W.iret (v := nI 2) hx hb hr (fun t ht hW => ⟨⟨nI 2, (oI (oI (oI (oI u 14 (nI (sk tx nt a0))) 13 (nI n)) 12 (nI b)) 11 (nI (sk tx nt a0)), lt, sj), rfl, Or.inr (Or.inr ⟨_, rfl, by repeat (first | exact rel.refl _ | exact rel.mono (by assumption) (by decide) (by decide) | refine rel.I (by decide) ?_ | refine rel.A (by decide) ?_ | refine rel.trans ?_ (rel.mono (by assumption) (by decide) (by decide))), by rw [hE]; rfl, rfl, nF_2 (by rw [hE]; omega), rfl⟩), show PP G (mw G h (oI (oI (oI (oI u 14 (nI (sk tx nt a0))) 13 (nI n)) 12 (nI b)) 11 (nI (sk tx nt a0))) lt sj) t.heap by rw [ht]; exact hP⟩, hS.F ht⟩) hS.2.2 dX5_takeNumber_155
    exact LP42 (nt - (sk tx nt a0) + 1) (sk tx nt a0) 0 (by first | assumption | omega) (by first | assumption | omega) (rfl) (fun _ => by omega) (fun _ => (val2_0 _ _).symm) (by first | assumption | omega) (Nat.lt_succ_self _) _ _ ls hP hD hS (lv_sub hl [1] rfl)
  · skip
    have h1 := nF_1 (dig_n hn13)
    refine lv_if_ne (tgt := 29) hx hb dX5_takeNumber_16 (by decide) (fun c9 => absurd (by decide) c9) (fun _ => ?_)
    refine lv_aload_n hx hb dX5_takeNumber_19 rfl (lv_at hl 1 rfl) ?_
    refine lv_iconst (v := nI 1) hx hb dX5_takeNumber_20 (by decide) ?_
    refine lv_aload_n hx hb dX5_takeNumber_21 rfl (lv_at hl 1 rfl) ?_
    refine va_get (D := gD G) (ci := 5) (v := .int (nI (sk tx nt a0))) (C := RX5) (T := TX5) (N := 38) hx hb hts hiX5 hown hK hP 0 rfl rfl 12 (by decide) k105 (fun _ h9 => h9) rfl dX5_takeNumber_22 ?_
    refine cXi (As := [.int (nI 1), .int (nI (sk tx nt a0))]) (rest := []) (S := oS × Int64 × (Nat → Int64)) (wa := mw G h (oI u 12 (nI (sk tx nt a0))) lt sj) (w1 := fun v => mw G h v.1 v.2.1 v.2.2) ⟨hx, hb, hml, hown, hts⟩ (mt_X5_fails l G h _ (oI u 12 (nI (sk tx nt a0))) lt sj (nI 1) (nI (sk tx nt a0))) (cwV 2 hts gX5_takeNumber_X5_fails rfl rfl rfl ⟨rfl, hd_X5_fails⟩ ⟨Nat.le_of_ble_eq_true rfl, Nat.le_of_ble_eq_true rfl⟩) hK hN hP hD hS hA (fun _ => rfl) 0 5 rfl rfl rfl hl.1 rfl (Nat.le_of_ble_eq_true rfl) ⟨Nat.zero_le _, Nat.zero_le _⟩ dX5_takeNumber_25 (fun r25 u25 H locs hw25 hP hD hS => ?_)
    obtain ⟨rfl, rfl⟩ := hw25
    have hP : PP G (mw G h (oI (oI u 12 (nI (sk tx nt a0))) 11 (nI (sk tx nt a0))) lt sj) H := hP
    have hD : va_D A (mw G h (oI (oI u 12 (nI (sk tx nt a0))) 11 (nI (sk tx nt a0))) lt sj) := hD
    exact W.iret (v := nI 1) hx hb hr (fun t ht hW => ⟨⟨nI 1, (oI (oI u 12 (nI (sk tx nt a0))) 11 (nI (sk tx nt a0)), lt, sj), rfl, Or.inr (Or.inl ⟨_, rfl, by repeat (first | exact rel.refl _ | exact rel.mono (by assumption) (by decide) (by decide) | refine rel.I (by decide) ?_ | refine rel.A (by decide) ?_ | refine rel.trans ?_ (rel.mono (by assumption) (by decide) (by decide))), by rw [h1.2]; rfl, rfl, h1.1, rfl⟩), show PP G (mw G h (oI (oI u 12 (nI (sk tx nt a0))) 11 (nI (sk tx nt a0))) lt sj) t.heap by rw [ht]; exact hP⟩, hS.F ht⟩) hS.2.2 dX5_takeNumber_28
set_option maxHeartbeats 1000000 in
set_option maxRecDepth 100000 in
theorem mt_X5_takeVersionNumber (l : Launch) (G : gG) (h : Nat → Nat) (sz : Nat) (u : oS) (lt : Int64) (sj : Nat → Int64) (nt : Nat) (a0 : Nat) (rv : Nat) (tx : Nat → Int32) (hnt : u.1 10 = nI nt) (ha0 : u.1 12 = nI a0) (hrv : u.1 15 = nI rv) (hnt240 : nt ≤ 240) (hAn : a0 ≤ nt) (hRv : rv ≤ 24) (htx : u.2 9 = tx) : Met l yX5_takeVersionNumber wsX5_takeVersionNumber ({ frames := 2, cells := 0, slots := 0, locals := 46 }) (preW G (mw G h u lt sj) sz [.ref (h 0)]) (va_Qi (fun (r : Int32) (v : oS × Int64 × (Nat → Int64)) => (∃ w, v = (w, lt, sj) ∧ rdN u w ∧ w.1 12 = nI (nE tx nt a0) ∧ w.1 13 = nI (nV tx nt a0) ∧ w.1 14 = nI (sk tx nt a0) ∧ w.1 11 = u.1 11 ∧ vF tx nt rv a0 = 0 ∧ r = nI 0) ∨ (∃ w, v = (w, lt, sj) ∧ rdN u w ∧ w.1 12 = nI (nE tx nt a0) ∧ w.1 11 = nI (sk tx nt a0) ∧ vF tx nt rv a0 = 1 ∧ r = nI 1) ∨ (∃ w, v = (w, lt, sj) ∧ rdN u w ∧ w.1 12 = nI (nE tx nt a0) ∧ w.1 11 = nI (sk tx nt a0) ∧ vF tx nt rv a0 = 2 ∧ r = nI 2)) (fun v t => PP G (mw G h v.1 v.2.1 v.2.2) t.heap) (va_A (mw G h u lt sj) sz)) 0 0 (va_A (mw G h u lt sj) sz) := by
  refine Met.ofW (cc := cX5_takeVersionNumber) (maxL := 2) (ret := (some .int)) (by decide) rfl ?_
  intro p e s m args below meth c s₁ B hml hv
  obtain ⟨ha, hsz, hP, hK, hN, hD0⟩ := hv
  subst ha
  have hx := B.exec
  have hb := B.bytes
  have hr := B.returns
  have hts := atoms_spec (ws := wsX5_takeVersionNumber) B.pre
  have hown : s.vm.findClass RX5 = some m.cls := findClass_of_methodNamed B.named
  have hlocks := B.notSynchronized
  subst hsz
  have hD := hD0.self (sz := s.heap.size)
  generalize hAe : va_A (mw G h u lt sj) s.heap.size = A at hD ⊢
  have hA : ∀ q : Nat, s.heap.size ≤ q → A q := fun q h => by rw [← hAe]; exact Or.inr h
  clear hAe hD0
  have hS : va_S A s.heap s.heap [] := va_S.rf
  have hiX5 : ∀ w ∈ wsX50, w ∈ wsX5_takeVersionNumber := fun w h9 => List.mem_cons_of_mem _ (List.mem_append_right _ (h9))
  have k123 := hts (.fieldLink RX5 123 "WovenHistoryModel" "number" "I") (List.mem_of_getElem? (i := 1) rfl)
  have k129 := hts (.fieldLink RX5 129 "WovenHistoryModel" "readVersions" "I") (List.mem_of_getElem? (i := 2) rfl)
  have k120 := hts (.fieldLink RX5 120 "WovenHistoryModel" "numberAt" "I") (List.mem_of_getElem? (i := 3) rfl)
  have hl := lv_entry ([.ref (h 0)]) (n := 2) (Nat.le_of_ble_eq_true rfl)
  rw [lg_entry_eq]
  generalize (lg_sl ([.ref (h 0)]) ++ List.replicate (2 - (lg_sl ([.ref (h 0)])).length) Slot.unset).toArray = ls at hl ⊢
  have hl : lv_has ls 2 [(0, .ref (h 0))] := hl
  refine lv_aload_n hx hb dX5_takeVersionNumber_0 rfl (lv_at hl 0 rfl) ?_
  refine cXi (As := []) (rest := []) (S := oS × Int64 × (Nat → Int64)) (wa := mw G h u lt sj) (w1 := fun v => mw G h v.1 v.2.1 v.2.2) ⟨hx, hb, hml, hown, hts⟩ (mt_X5_takeNumber l G h _ u lt sj nt a0 tx (hnt) (ha0) (by first | assumption | omega) (by first | assumption | omega) (htx)) (cwV 0 hts gX5_takeVersionNumber_X5_takeNumber rfl rfl rfl ⟨rfl, hd_X5_takeNumber⟩ ⟨Nat.le_of_ble_eq_true rfl, Nat.le_of_ble_eq_true rfl⟩) hK hN hP hD hS hA (fun _ => rfl) 0 5 rfl rfl rfl hl.1 rfl (Nat.le_of_ble_eq_true rfl) ⟨Nat.zero_le _, Nat.zero_le _⟩ dX5_takeVersionNumber_1 (fun r1 u1 H locs hw1 hP hD hS => ?_)
  rcases hw1 with ⟨w1, rfl, hR1, hb1, en1, e141, e111, hf1, rfl⟩ | ⟨w1, rfl, hR1, hb1, e111, hf1, rfl⟩ | ⟨w1, rfl, hR1, hb1, e111, hf1, rfl⟩
  · skip
    have hP : PP G (mw G h w1 lt sj) H := hP
    have hD : va_D A (mw G h w1 lt sj) := hD
    have htx1 : w1.2 9 = tx := (hR1.2 9 (by decide)).trans (htx)
    have hEg1 : a0 ≤ nE tx nt a0 := nE_ge _ _ _
    have hEl1 : nE tx nt a0 ≤ nt := nE_le (by omega)
    have hV1 : nV tx nt a0 ≤ 99 := nV_le hf1
    refine lv_istore_n (lv' := [(1, .int (nI 0)), (0, .ref (h 0))]) hx hb dX5_takeVersionNumber_4 rfl hl (by decide) rfl (fun ls hl => ?_)
    refine lv_iload_n hx hb dX5_takeVersionNumber_5 rfl (lv_at hl 0 rfl) ?_
    refine lv_if_ne (tgt := 32) hx hb dX5_takeVersionNumber_6 (by decide) (fun c9 => absurd (by decide) c9) (fun _ => ?_)
    refine lv_aload_n hx hb dX5_takeVersionNumber_9 rfl (lv_at hl 1 rfl) ?_
    refine va_get (D := gD G) (ci := 5) (v := .int (w1.1 13)) (C := RX5) (T := TX5) (N := 38) hx hb hts hiX5 hown hK hP 0 rfl rfl 13 (by decide) k123 (fun _ h9 => h9) rfl dX5_takeVersionNumber_10 ?_
    refine topE en1 ?_
    refine lv_aload_n hx hb dX5_takeVersionNumber_13 rfl (lv_at hl 1 rfl) ?_
    refine va_get (D := gD G) (ci := 5) (v := .int (w1.1 15)) (C := RX5) (T := TX5) (N := 38) hx hb hts hiX5 hown hK hP 0 rfl rfl 15 (by decide) k129 (fun _ h9 => h9) rfl dX5_takeVersionNumber_14 ?_
    refine topE ((hR1.1 15 (by decide)).trans (hrv)) ?_
    refine lv_icmp_lt (tgt := 32) hx hb dX5_takeVersionNumber_17 (by decide) (fun c17 => ?_) (fun c17 => ?_)
    · skip
      have n17 : (nV tx nt a0) < rv := (nI_ltI (a := nV tx nt a0) (b := rv) (by omega) (by omega)).mp c17
      refine lv_iload_n hx hb dX5_takeVersionNumber_32 rfl (lv_at hl 0 rfl) ?_
      exact W.iret (v := nI 0) hx hb hr (fun t ht hW => ⟨⟨nI 0, (w1, lt, sj), rfl, Or.inl ⟨_, rfl, by repeat (first | exact rel.refl _ | exact rel.mono (by assumption) (by decide) (by decide) | refine rel.I (by decide) ?_ | refine rel.A (by decide) ?_ | refine rel.trans ?_ (rel.mono (by assumption) (by decide) (by decide))), hb1, en1, e141, e111, vF_0 hf1 (by omega), rfl⟩, show PP G (mw G h w1 lt sj) t.heap by rw [ht]; exact hP⟩, hS.F ht⟩) hS.2.2 dX5_takeVersionNumber_33
    · skip
      have n17 : ¬ ((nV tx nt a0) < rv) := fun q9 => c17 ((nI_ltI (a := nV tx nt a0) (b := rv) (by omega) (by omega)).mpr q9)
      refine lv_aload_n hx hb dX5_takeVersionNumber_20 rfl (lv_at hl 1 rfl) ?_
      refine lv_iconst (v := nI 2) hx hb dX5_takeVersionNumber_21 (by decide) ?_
      refine lv_aload_n hx hb dX5_takeVersionNumber_22 rfl (lv_at hl 1 rfl) ?_
      refine va_get (D := gD G) (ci := 5) (v := .int (w1.1 14)) (C := RX5) (T := TX5) (N := 38) hx hb hts hiX5 hown hK hP 0 rfl rfl 14 (by decide) k120 (fun _ h9 => h9) rfl dX5_takeVersionNumber_23 ?_
      refine topE e141 ?_
      refine cXi (As := [.int (nI 2), .int (nI (sk tx nt a0))]) (rest := []) (S := oS × Int64 × (Nat → Int64)) (wa := mw G h w1 lt sj) (w1 := fun v => mw G h v.1 v.2.1 v.2.2) ⟨hx, hb, hml, hown, hts⟩ (mt_X5_fails l G h _ w1 lt sj (nI 2) (nI (sk tx nt a0))) (cwV 2 hts gX5_takeVersionNumber_X5_fails rfl rfl rfl ⟨rfl, hd_X5_fails⟩ ⟨Nat.le_of_ble_eq_true rfl, Nat.le_of_ble_eq_true rfl⟩) hK hN hP hD hS hA (fun _ => rfl) 0 5 rfl rfl rfl hl.1 rfl (Nat.le_of_ble_eq_true rfl) ⟨Nat.zero_le _, Nat.zero_le _⟩ dX5_takeVersionNumber_26 (fun r26 u26 H locs hw26 hP hD hS => ?_)
      obtain ⟨rfl, rfl⟩ := hw26
      have hP : PP G (mw G h (oI w1 11 (nI (sk tx nt a0))) lt sj) H := hP
      have hD : va_D A (mw G h (oI w1 11 (nI (sk tx nt a0))) lt sj) := hD
      refine lv_goto (tgt := 33) hx hb dX5_takeVersionNumber_29 (by decide) ?_
      exact W.iret (v := nI 2) hx hb hr (fun t ht hW => ⟨⟨nI 2, (oI w1 11 (nI (sk tx nt a0)), lt, sj), rfl, Or.inr (Or.inr ⟨_, rfl, by repeat (first | exact rel.refl _ | exact rel.mono (by assumption) (by decide) (by decide) | refine rel.I (by decide) ?_ | refine rel.A (by decide) ?_ | refine rel.trans ?_ (rel.mono (by assumption) (by decide) (by decide))), hb1, rfl, vF_2 hf1 (by omega), rfl⟩), show PP G (mw G h (oI w1 11 (nI (sk tx nt a0))) lt sj) t.heap by rw [ht]; exact hP⟩, hS.F ht⟩) hS.2.2 dX5_takeVersionNumber_33
  · skip
    have hP : PP G (mw G h w1 lt sj) H := hP
    have hD : va_D A (mw G h w1 lt sj) := hD
    have htx1 : w1.2 9 = tx := (hR1.2 9 (by decide)).trans (htx)
    have hEg1 : a0 ≤ nE tx nt a0 := nE_ge _ _ _
    have hEl1 : nE tx nt a0 ≤ nt := nE_le (by omega)
    refine lv_istore_n (lv' := [(1, .int (nI 1)), (0, .ref (h 0))]) hx hb dX5_takeVersionNumber_4 rfl hl (by decide) rfl (fun ls hl => ?_)
    refine lv_iload_n hx hb dX5_takeVersionNumber_5 rfl (lv_at hl 0 rfl) ?_
    refine lv_if_ne (tgt := 32) hx hb dX5_takeVersionNumber_6 (by decide) (fun _ => ?_) (fun c9 => absurd c9 (by decide))
    refine lv_iload_n hx hb dX5_takeVersionNumber_32 rfl (lv_at hl 0 rfl) ?_
    exact W.iret (v := nI 1) hx hb hr (fun t ht hW => ⟨⟨nI 1, (w1, lt, sj), rfl, Or.inr (Or.inl ⟨_, rfl, by repeat (first | exact rel.refl _ | exact rel.mono (by assumption) (by decide) (by decide) | refine rel.I (by decide) ?_ | refine rel.A (by decide) ?_ | refine rel.trans ?_ (rel.mono (by assumption) (by decide) (by decide))), hb1, e111, (vF_f (by omega)).trans hf1, rfl⟩), show PP G (mw G h w1 lt sj) t.heap by rw [ht]; exact hP⟩, hS.F ht⟩) hS.2.2 dX5_takeVersionNumber_33
  · skip
    have hP : PP G (mw G h w1 lt sj) H := hP
    have hD : va_D A (mw G h w1 lt sj) := hD
    have htx1 : w1.2 9 = tx := (hR1.2 9 (by decide)).trans (htx)
    have hEg1 : a0 ≤ nE tx nt a0 := nE_ge _ _ _
    have hEl1 : nE tx nt a0 ≤ nt := nE_le (by omega)
    refine lv_istore_n (lv' := [(1, .int (nI 2)), (0, .ref (h 0))]) hx hb dX5_takeVersionNumber_4 rfl hl (by decide) rfl (fun ls hl => ?_)
    refine lv_iload_n hx hb dX5_takeVersionNumber_5 rfl (lv_at hl 0 rfl) ?_
    refine lv_if_ne (tgt := 32) hx hb dX5_takeVersionNumber_6 (by decide) (fun _ => ?_) (fun c9 => absurd c9 (by decide))
    refine lv_iload_n hx hb dX5_takeVersionNumber_32 rfl (lv_at hl 0 rfl) ?_
    exact W.iret (v := nI 2) hx hb hr (fun t ht hW => ⟨⟨nI 2, (w1, lt, sj), rfl, Or.inr (Or.inr ⟨_, rfl, by repeat (first | exact rel.refl _ | exact rel.mono (by assumption) (by decide) (by decide) | refine rel.I (by decide) ?_ | refine rel.A (by decide) ?_ | refine rel.trans ?_ (rel.mono (by assumption) (by decide) (by decide))), hb1, e111, (vF_f (by omega)).trans hf1, rfl⟩), show PP G (mw G h w1 lt sj) t.heap by rw [ht]; exact hP⟩, hS.F ht⟩) hS.2.2 dX5_takeVersionNumber_33
set_option maxHeartbeats 1000000 in
set_option maxRecDepth 100000 in
theorem mt_X5_takeOthers17 (l : Launch) (G : gG) (h : Nat → Nat) (sz : Nat) (u : oS) (lt : Int64) (sj : Nat → Int64) (nt : Nat) (a0 : Nat) (rv : Nat) (tx : Nat → Int32) (sg : Int32) (to : Int32) (hnt : u.1 10 = nI nt) (ha0 : u.1 12 = nI a0) (hrv : u.1 15 = nI rv) (hnt240 : nt ≤ 240) (hAn : a0 ≤ nt) (hRv : rv < 24) (htx : u.2 9 = tx) (hsm : ¬ sg = -1) (hx0 : u.2 17 rv = nI 0) (hto : u.2 18 rv = to) : Met l yX5_takeOthers wsX5_takeOthers ({ frames := 3, cells := 0, slots := 0, locals := 67 }) (preW G (mw G h u lt sj) sz [.ref (h 0), .int sg, .ref (h 17)]) (va_Qi (fun (r : Int32) (v : oS × Int64 × (Nat → Int64)) => (∃ w b x, v = (w, lt, sj) ∧ rdO u w ∧ w.1 12 = nI b ∧ a0 ≤ b ∧ b ≤ nt ∧ w.2 17 = upd (u.2 17) rv x ∧ w.2 18 = u.2 18 ∧ oth tx nt sg rv to a0 (nI 0) = (0, 0, b, x) ∧ w.1 11 = u.1 11 ∧ r = nI 0) ∨ (∃ w b f p e y, v = (w, lt, sj) ∧ rdO u w ∧ w.1 12 = nI b ∧ a0 ≤ b ∧ b ≤ nt ∧ oth tx nt sg rv to a0 (nI 0) = (f, p, e, y) ∧ w.1 11 = nI p ∧ r = nI f ∧ 0 < f ∧ f ≤ 4)) (fun v t => PP G (mw G h v.1 v.2.1 v.2.2) t.heap) (va_A (mw G h u lt sj) sz)) 0 0 (va_A (mw G h u lt sj) sz) := by
  refine Met.ofW (cc := cX5_takeOthers) (maxL := 5) (ret := (some .int)) (by decide) rfl ?_
  intro p e s m args below meth c s₁ B hml hv
  obtain ⟨ha, hsz, hP, hK, hN, hD0⟩ := hv
  subst ha
  have hx := B.exec
  have hb := B.bytes
  have hr := B.returns
  have hts := atoms_spec (ws := wsX5_takeOthers) B.pre
  have hown : s.vm.findClass RX5 = some m.cls := findClass_of_methodNamed B.named
  have hlocks := B.notSynchronized
  subst hsz
  have hD := hD0.self (sz := s.heap.size)
  generalize hAe : va_A (mw G h u lt sj) s.heap.size = A at hD ⊢
  have hA : ∀ q : Nat, s.heap.size ≤ q → A q := fun q h => by rw [← hAe]; exact Or.inr h
  clear hAe hD0
  have hS : va_S A s.heap s.heap [] := va_S.rf
  have hiX5 : ∀ w ∈ wsX50, w ∈ wsX5_takeOthers := fun w h9 => List.mem_cons_of_mem _ (List.mem_append_right _ (h9))
  have k105 := hts (.fieldLink RX5 105 "WovenHistoryModel" "at0" "I") (List.mem_of_getElem? (i := 1) rfl)
  have k38 := hts (.fieldLink RX5 38 "WovenHistoryModel" "readIncludes" "[I") (List.mem_of_getElem? (i := 2) rfl)
  have k129 := hts (.fieldLink RX5 129 "WovenHistoryModel" "readVersions" "I") (List.mem_of_getElem? (i := 3) rfl)
  have k41 := hts (.fieldLink RX5 41 "WovenHistoryModel" "readExcludes" "[I") (List.mem_of_getElem? (i := 4) rfl)
  have k123 := hts (.fieldLink RX5 123 "WovenHistoryModel" "number" "I") (List.mem_of_getElem? (i := 5) rfl)
  have k120 := hts (.fieldLink RX5 120 "WovenHistoryModel" "numberAt" "I") (List.mem_of_getElem? (i := 6) rfl)
  have hl := lv_entry ([.ref (h 0), .int sg, .ref (h 17)]) (n := 5) (Nat.le_of_ble_eq_true rfl)
  rw [lg_entry_eq]
  generalize (lg_sl ([.ref (h 0), .int sg, .ref (h 17)]) ++ List.replicate (5 - (lg_sl ([.ref (h 0), .int sg, .ref (h 17)])).length) Slot.unset).toArray = ls at hl ⊢
  have hl : lv_has ls 5 [(0, .ref (h 0)), (1, .int sg), (2, .ref (h 17))] := hl
  refine lv_iconst (v := nI 0) hx hb dX5_takeOthers_0 (by decide) ?_
  refine lv_istore_n (lv' := [(3, .int (nI 0)), (0, .ref (h 0)), (1, .int sg), (2, .ref (h 17))]) hx hb dX5_takeOthers_1 rfl hl (by decide) rfl (fun ls hl => ?_)
  have LP2 : ∀ (n2m : Nat), ∀ (f : Nat) (w : oS) (b : Nat) (x : Int32) (hR : rdO u w) (hbq : w.1 12 = nI b) (hab : a0 ≤ b) (hbn : b ≤ nt) (hf : f ≤ 4) (htx_w : w.2 9 = tx) (hF0 : f = 0 → oth tx nt sg rv to b x = oth tx nt sg rv to a0 (nI 0) ∧ w.1 11 = u.1 11 ∧ w.2 17 = upd (u.2 17) rv x ∧ w.2 18 = u.2 18) (hF1 : ¬ f = 0 → ∃ p e y, oth tx nt sg rv to a0 (nI 0) = (f, p, e, y) ∧ w.1 11 = nI p), (nt - b < n2m) → ∀ (H : Heap) (locs : List Loc) (ls : Array Slot), PP G (mw G h w lt sj) H → va_D A (mw G h w lt sj) → va_S A s.heap H locs → lv_has ls 5 [(0, .ref (h 0)), (1, .int sg), (2, .ref (h 17)), (3, .int (nI f))] → W p l e (headSpec wsX5_takeOthers ({ frames := 3, cells := 0, slots := 0, locals := 67 })).room s m ([.ref (h 0), .int sg, .ref (h 17)] : List Value).toArray below meth c H locs 0 0 (MQ below (va_Qi (fun (r : Int32) (v : oS × Int64 × (Nat → Int64)) => (∃ w b x, v = (w, lt, sj) ∧ rdO u w ∧ w.1 12 = nI b ∧ a0 ≤ b ∧ b ≤ nt ∧ w.2 17 = upd (u.2 17) rv x ∧ w.2 18 = u.2 18 ∧ oth tx nt sg rv to a0 (nI 0) = (0, 0, b, x) ∧ w.1 11 = u.1 11 ∧ r = nI 0) ∨ (∃ w b f p e y, v = (w, lt, sj) ∧ rdO u w ∧ w.1 12 = nI b ∧ a0 ≤ b ∧ b ≤ nt ∧ oth tx nt sg rv to a0 (nI 0) = (f, p, e, y) ∧ w.1 11 = nI p ∧ r = nI f ∧ 0 < f ∧ f ≤ 4)) (fun v t => PP G (mw G h v.1 v.2.1 v.2.2) t.heap) A) ([.ref (h 0), .int sg, .ref (h 17)] : List Value).toArray s 0 0 A) (F0 m 2 ls []) := by
    intro n2m
    induction n2m with
    | zero => intro f w b x hR hbq hab hbn hf htx_w hF0 hF1 hmu H locs ls hP hD hS hl; exact absurd hmu (Nat.not_lt_zero _)
    | succ n2m ih2 =>
      intro f w b x hR hbq hab hbn hf htx_w hF0 hF1 hmu H locs ls hP hD hS hl
      refine lv_iload_n hx hb dX5_takeOthers_2 rfl (lv_at hl 3 rfl) ?_
      refine lv_if_ne (tgt := 106) hx hb dX5_takeOthers_3 (by decide) (fun c3 => ?_) (fun c3 => ?_)
      · skip
        have n3 : ¬ (f = 0) := fun q9 => c3 ((nI_eq (a := f) (b := 0) (by omega) (by omega)).mpr q9)
        refine lv_iload_n hx hb dX5_takeOthers_106 rfl (lv_at hl 3 rfl) ?_
        exact W.iret (v := nI f) hx hb hr (fun t ht hW => ⟨⟨nI f, (w, lt, sj), rfl, by obtain ⟨p9, e9, y9, h9, h10⟩ := hF1 n3; exact Or.inr ⟨w, b, f, p9, e9, y9, rfl, hR, hbq, hab, hbn, h9, h10, rfl, by omega, hf⟩, show PP G (mw G h w lt sj) t.heap by rw [ht]; exact hP⟩, hS.F ht⟩) hS.2.2 dX5_takeOthers_107
      · skip
        have n3 : f = 0 := (nI_eq (a := f) (b := 0) (by omega) (by omega)).mp c3
        obtain ⟨hO, h11, eK, eO⟩ := hF0 n3
        refine lv_aload_n hx hb dX5_takeOthers_6 rfl (lv_at hl 0 rfl) ?_
        refine cXi (As := []) (rest := []) (S := oS × Int64 × (Nat → Int64)) (wa := mw G h w lt sj) (w1 := fun v => mw G h v.1 v.2.1 v.2.2) ⟨hx, hb, hml, hown, hts⟩ (mt_X5_here l G h _ w lt sj nt b tx ((hR.1 10 (by decide)).trans hnt) (hbq) (by first | assumption | omega) (by first | assumption | omega) (htx_w)) (cwV 0 hts gX5_takeOthers_X5_here rfl rfl rfl ⟨rfl, hd_X5_here⟩ ⟨Nat.le_of_ble_eq_true rfl, Nat.le_of_ble_eq_true rfl⟩) hK hN hP hD hS hA (fun _ => rfl) 0 5 rfl rfl rfl hl.1 rfl (Nat.le_of_ble_eq_true rfl) ⟨Nat.zero_le _, Nat.zero_le _⟩ dX5_takeOthers_7 (fun r7 u7 H locs hw7 hP hD hS => ?_)
        obtain ⟨rfl, rfl⟩ := hw7
        have hP : PP G (mw G h (oI w 12 (nI (sk tx nt b))) lt sj) H := hP
        have hD : va_D A (mw G h (oI w 12 (nI (sk tx nt b))) lt sj) := hD
        have hge7 : b ≤ sk tx nt b := rn_ge _
        have hle7 : sk tx nt b ≤ nt := rn_le (by omega)
        refine lv_iload_n hx hb dX5_takeOthers_10 rfl (lv_at hl 1 rfl) ?_
        refine lv_icmp_ne (tgt := 106) hx hb dX5_takeOthers_11 (by decide) (fun c11 => ?_) (fun c11 => ?_)
        · skip
          refine lv_iload_n hx hb dX5_takeOthers_106 rfl (lv_at hl 3 rfl) ?_
          exact W.iret (v := nI f) hx hb hr (fun t ht hW => ⟨⟨nI f, (oI w 12 (nI (sk tx nt b)), lt, sj), rfl, Or.inl ⟨_, sk tx nt b, x, rfl, by repeat (first | exact rel.refl _ | exact rel.mono (by assumption) (by decide) (by decide) | refine rel.I (by decide) ?_ | refine rel.A (by decide) ?_ | refine rel.trans ?_ (rel.mono (by assumption) (by decide) (by decide))), rfl, by omega, by omega, eK, eO, hO.symm.trans (oth_e c11 (by omega)), h11, by rw [n3]⟩, show PP G (mw G h (oI w 12 (nI (sk tx nt b))) lt sj) t.heap by rw [ht]; exact hP⟩, hS.F ht⟩) hS.2.2 dX5_takeOthers_107
        · skip
          have hbl := hd_c c11 hsm
          refine lv_aload_n hx hb dX5_takeOthers_14 rfl (lv_at hl 0 rfl) ?_
          refine lv_dup hx hb dX5_takeOthers_15 rfl ?_
          refine va_get (D := gD G) (ci := 5) (v := .int (nI (sk tx nt b))) (C := RX5) (T := TX5) (N := 38) hx hb hts hiX5 hown hK hP 0 rfl rfl 12 (by decide) k105 (fun _ h9 => h9) rfl dX5_takeOthers_16 ?_
          refine lv_iconst (v := nI 1) hx hb dX5_takeOthers_19 (by decide) ?_
          refine lv_iadd hx hb dX5_takeOthers_20 ?_
          refine topE (y := nI ((sk tx nt b) + 1)) (nI_add (sk tx nt b) 1) ?_
          refine va_put (D := gD G) (ci := 5) (v := .int (nI ((sk tx nt b) + 1))) (ty := .int) (C := RX5) (T := TX5) (N := 38) hx hb hts hiX5 tyX5 tyX5_ok nmX5 hown hK hP hD hS 0 rfl rfl 12 (by decide) k105 (fun _ h9 => h9) rfl (tyX5_ok 12 (by decide)) (rfl) (rfl) (Nat.le_of_ble_eq_true rfl) dX5_takeOthers_21 (fun H locs hP hD hS => ?_)
          have hP : PP G (mw G h (oI (oI w 12 (nI (sk tx nt b))) 12 (nI ((sk tx nt b) + 1))) lt sj) H := hP
          have hD : va_D A (mw G h (oI (oI w 12 (nI (sk tx nt b))) 12 (nI ((sk tx nt b) + 1))) lt sj) := hD
          refine lv_aload_n hx hb dX5_takeOthers_24 rfl (lv_at hl 0 rfl) ?_
          refine cXi (As := []) (rest := []) (S := oS × Int64 × (Nat → Int64)) (wa := mw G h (oI (oI w 12 (nI (sk tx nt b))) 12 (nI ((sk tx nt b) + 1))) lt sj) (w1 := fun v => mw G h v.1 v.2.1 v.2.2) ⟨hx, hb, hml, hown, hts⟩ (mt_X5_takeVersionNumber l G h _ (oI (oI w 12 (nI (sk tx nt b))) 12 (nI ((sk tx nt b) + 1))) lt sj nt ((sk tx nt b) + 1) rv tx ((hR.1 10 (by decide)).trans hnt) (rfl) ((hR.1 15 (by decide)).trans hrv) (by first | assumption | omega) (by first | assumption | omega) (by first | assumption | omega) (htx_w)) (cwV 0 hts gX5_takeOthers_X5_takeVersionNumber rfl rfl rfl ⟨rfl, hd_X5_takeVersionNumber⟩ ⟨Nat.le_of_ble_eq_true rfl, Nat.le_of_ble_eq_true rfl⟩) hK hN hP hD hS hA (fun _ => rfl) 0 5 rfl rfl rfl hl.1 rfl (Nat.le_of_ble_eq_true rfl) ⟨Nat.zero_le _, Nat.zero_le _⟩ dX5_takeOthers_25 (fun r25 u25 H locs hw25 hP hD hS => ?_)
          rcases hw25 with ⟨w25, rfl, hR25, hb25, en25, e1425, e1125, hf25, rfl⟩ | ⟨w25, rfl, hR25, hb25, e1125, hf25, rfl⟩ | ⟨w25, rfl, hR25, hb25, e1125, hf25, rfl⟩
          · skip
            have hP : PP G (mw G h w25 lt sj) H := hP
            have hD : va_D A (mw G h w25 lt sj) := hD
            have htx25 : w25.2 9 = tx := (hR25.2 9 (by decide)).trans (htx_w)
            have hEg25 : ((sk tx nt b) + 1) ≤ nE tx nt ((sk tx nt b) + 1) := nE_ge _ _ _
            have hEl25 : nE tx nt ((sk tx nt b) + 1) ≤ nt := nE_le (by omega)
            have hV25 := (vF_ok hf25).2
            refine lv_istore_n (lv' := [(3, .int (nI 0)), (0, .ref (h 0)), (1, .int sg), (2, .ref (h 17))]) hx hb dX5_takeOthers_28 rfl hl (by decide) rfl (fun ls hl => ?_)
            refine lv_aload_n hx hb dX5_takeOthers_29 rfl (lv_at hl 1 rfl) ?_
            refine va_get (D := gD G) (ci := 5) (v := .ref (h 17)) (C := RX5) (T := TX5) (N := 38) hx hb hts hiX5 hown hK hP 0 rfl rfl 17 (by decide) k38 (fun _ h9 => h9) rfl dX5_takeOthers_30 ?_
            refine lv_aload_n hx hb dX5_takeOthers_33 rfl (lv_at hl 1 rfl) ?_
            refine va_get (D := gD G) (ci := 5) (v := .int (w25.1 15)) (C := RX5) (T := TX5) (N := 38) hx hb hts hiX5 hown hK hP 0 rfl rfl 15 (by decide) k129 (fun _ h9 => h9) rfl dX5_takeOthers_34 ?_
            refine topE ((hR25.1 15 (by decide)).trans ((hR.1 15 (by decide)).trans hrv)) ?_
            refine ialdN (f := w25.2 17) (n := 24) (k := rv) hx hb hK hP 9 rfl rfl (by omega) dX5_takeOthers_37 ?_
            refine topE (show _ = x from by show ((w25.2 17)) rv = x; rw [hR25.2 17 (by decide)]; show (w.2 17) rv = x; rw [eK]; exact pk_us) ?_
            refine lv_aload_n hx hb dX5_takeOthers_38 rfl (lv_at hl 1 rfl) ?_
            refine va_get (D := gD G) (ci := 5) (v := .ref (h 18)) (C := RX5) (T := TX5) (N := 38) hx hb hts hiX5 hown hK hP 0 rfl rfl 18 (by decide) k41 (fun _ h9 => h9) rfl dX5_takeOthers_39 ?_
            refine lv_aload_n hx hb dX5_takeOthers_42 rfl (lv_at hl 1 rfl) ?_
            refine va_get (D := gD G) (ci := 5) (v := .int (w25.1 15)) (C := RX5) (T := TX5) (N := 38) hx hb hts hiX5 hown hK hP 0 rfl rfl 15 (by decide) k129 (fun _ h9 => h9) rfl dX5_takeOthers_43 ?_
            refine topE ((hR25.1 15 (by decide)).trans ((hR.1 15 (by decide)).trans hrv)) ?_
            refine ialdN (f := w25.2 18) (n := 24) (k := rv) hx hb hK hP 10 rfl rfl (by omega) dX5_takeOthers_46 ?_
            refine topE (show _ = to from by show ((w25.2 18)) rv = to; rw [hR25.2 18 (by decide)]; show (w.2 18) rv = to; rw [eO]; exact hto) ?_
            refine lv_ior hx hb dX5_takeOthers_47 ?_
            refine lv_istore (lv' := [(4, .int (x ||| to)), (3, .int (nI 0)), (0, .ref (h 0)), (1, .int sg), (2, .ref (h 17))]) hx hb dX5_takeOthers_48 hl (by decide) rfl (fun ls hl => ?_)
            refine lv_iload_n hx hb dX5_takeOthers_50 rfl (lv_at hl 1 rfl) ?_
            refine lv_if_ne (tgt := 78) hx hb dX5_takeOthers_51 (by decide) (fun c9 => absurd (by decide) c9) (fun _ => ?_)
            refine lv_iload hx hb dX5_takeOthers_54 (lv_at hl 0 rfl) ?_
            refine lv_aload_n hx hb dX5_takeOthers_56 rfl (lv_at hl 2 rfl) ?_
            refine va_get (D := gD G) (ci := 5) (v := .int (w25.1 13)) (C := RX5) (T := TX5) (N := 38) hx hb hts hiX5 hown hK hP 0 rfl rfl 13 (by decide) k123 (fun _ h9 => h9) rfl dX5_takeOthers_57 ?_
            refine topE en25 ?_
            refine cSi (As := [.int (x ||| to), .int (nI (nV tx nt ((sk tx nt b) + 1)))]) (rest := []) ⟨hx, hb, hml, hown, hts⟩ (mt_X5_has l (x ||| to) (nI (nV tx nt ((sk tx nt b) + 1)))) (va_cwS 2 hts gX5_takeOthers_X5_has rfl rfl rfl hd_X5_has ⟨Nat.le_of_ble_eq_true rfl, Nat.le_of_ble_eq_true rfl⟩) rfl hl.1 rfl (Nat.le_of_ble_eq_true rfl) ⟨Nat.zero_le _, Nat.zero_le _⟩ dX5_takeOthers_60 (fun r60 hw60 => ?_)
            rcases hw60 with ⟨rfl, hy60⟩ | ⟨rfl, hn60⟩
            · skip
              refine lv_if_eq (tgt := 78) hx hb dX5_takeOthers_63 (by decide) (fun c9 => absurd c9 (by decide)) (fun _ => ?_)
              refine lv_aload_n hx hb dX5_takeOthers_66 rfl (lv_at hl 2 rfl) ?_
              refine lv_iconst (v := nI 4) hx hb dX5_takeOthers_67 (by decide) ?_
              refine lv_aload_n hx hb dX5_takeOthers_68 rfl (lv_at hl 2 rfl) ?_
              refine va_get (D := gD G) (ci := 5) (v := .int (w25.1 14)) (C := RX5) (T := TX5) (N := 38) hx hb hts hiX5 hown hK hP 0 rfl rfl 14 (by decide) k120 (fun _ h9 => h9) rfl dX5_takeOthers_69 ?_
              refine topE e1425 ?_
              refine cXi (As := [.int (nI 4), .int (nI (sk tx nt ((sk tx nt b) + 1)))]) (rest := []) (S := oS × Int64 × (Nat → Int64)) (wa := mw G h w25 lt sj) (w1 := fun v => mw G h v.1 v.2.1 v.2.2) ⟨hx, hb, hml, hown, hts⟩ (mt_X5_fails l G h _ w25 lt sj (nI 4) (nI (sk tx nt ((sk tx nt b) + 1)))) (cwV 2 hts gX5_takeOthers_X5_fails rfl rfl rfl ⟨rfl, hd_X5_fails⟩ ⟨Nat.le_of_ble_eq_true rfl, Nat.le_of_ble_eq_true rfl⟩) hK hN hP hD hS hA (fun _ => rfl) 0 5 rfl rfl rfl hl.1 rfl (Nat.le_of_ble_eq_true rfl) ⟨Nat.zero_le _, Nat.zero_le _⟩ dX5_takeOthers_72 (fun r72 u72 H locs hw72 hP hD hS => ?_)
              obtain ⟨rfl, rfl⟩ := hw72
              have hP : PP G (mw G h (oI w25 11 (nI (sk tx nt ((sk tx nt b) + 1)))) lt sj) H := hP
              have hD : va_D A (mw G h (oI w25 11 (nI (sk tx nt ((sk tx nt b) + 1)))) lt sj) := hD
              refine lv_goto (tgt := 79) hx hb dX5_takeOthers_75 (by decide) ?_
              refine lv_istore_n (lv' := [(3, .int (nI 4)), (4, .int (x ||| to)), (0, .ref (h 0)), (1, .int sg), (2, .ref (h 17))]) hx hb dX5_takeOthers_79 rfl hl (by decide) rfl (fun ls hl => ?_)
              refine lv_aload_n hx hb dX5_takeOthers_80 rfl (lv_at hl 4 rfl) ?_
              refine lv_aload_n hx hb dX5_takeOthers_81 rfl (lv_at hl 2 rfl) ?_
              refine va_get (D := gD G) (ci := 5) (v := .int ((oI w25 11 (nI (sk tx nt ((sk tx nt b) + 1)))).1 15)) (C := RX5) (T := TX5) (N := 38) hx hb hts hiX5 hown hK hP 0 rfl rfl 15 (by decide) k129 (fun _ h9 => h9) rfl dX5_takeOthers_82 ?_
              refine topE ((hR25.1 15 (by decide)).trans ((hR.1 15 (by decide)).trans hrv)) ?_
              refine lv_dup2_11 hx hb dX5_takeOthers_85 rfl rfl ?_
              refine ialdN (f := (oI w25 11 (nI (sk tx nt ((sk tx nt b) + 1)))).2 17) (n := 24) (k := rv) hx hb hK hP 9 rfl rfl (by omega) dX5_takeOthers_86 ?_
              refine topE (show _ = x from by show ((w25.2 17)) rv = x; rw [hR25.2 17 (by decide)]; show (w.2 17) rv = x; rw [eK]; exact pk_us) ?_
              refine lv_iload_n hx hb dX5_takeOthers_87 rfl (lv_at hl 0 rfl) ?_
              refine lv_if_ne (tgt := 100) hx hb dX5_takeOthers_88 (by decide) (fun _ => ?_) (fun c9 => absurd c9 (by decide))
              refine lv_iconst (v := (0 : Int32)) hx hb dX5_takeOthers_100 (by decide) ?_
              refine lv_ior hx hb dX5_takeOthers_101 ?_
              refine iastN (f := (oI w25 11 (nI (sk tx nt ((sk tx nt b) + 1)))).2 17) (n := 24) (k := rv) hx hb hK hP hD hS 9 rfl rfl (by omega) dX5_takeOthers_102 (fun H locs hP hD hS => ?_)
              have hP : PP G (mw G h (oA (oI w25 11 (nI (sk tx nt ((sk tx nt b) + 1)))) 17 (upd ((oI w25 11 (nI (sk tx nt ((sk tx nt b) + 1)))).2 17) rv (x ||| (0 : Int32)))) lt sj) H := hP
              have hD : va_D A (mw G h (oA (oI w25 11 (nI (sk tx nt ((sk tx nt b) + 1)))) 17 (upd ((oI w25 11 (nI (sk tx nt ((sk tx nt b) + 1)))).2 17) rv (x ||| (0 : Int32)))) lt sj) := hD
              refine lv_goto (tgt := 2) hx hb dX5_takeOthers_103 (by decide) ?_
              exact ih2 4 (oA (oI w25 11 (nI (sk tx nt ((sk tx nt b) + 1)))) 17 (upd ((oI w25 11 (nI (sk tx nt ((sk tx nt b) + 1)))).2 17) rv (x ||| (0 : Int32)))) (nE tx nt ((sk tx nt b) + 1)) x (by repeat (first | exact rel.refl _ | exact rel.mono (by assumption) (by decide) (by decide) | refine rel.I (by decide) ?_ | refine rel.A (by decide) ?_ | refine rel.trans ?_ (rel.mono (by assumption) (by decide) (by decide)))) (hb25) (by first | assumption | omega) (by first | assumption | omega) (by first | assumption | omega) (htx25) (fun q => absurd q (by decide)) (fun _ => ⟨sk tx nt (sk tx nt b + 1), nE tx nt (sk tx nt b + 1), x, hO.symm.trans (oth_4 c11 hf25 (by rw [Int32.or_comm]; exact hasb_t hy60) (by omega)), rfl⟩) (by omega) _ _ ls hP hD hS (lv_sub hl [2, 3, 4, 0] rfl)
            · skip
              refine lv_if_eq (tgt := 78) hx hb dX5_takeOthers_63 (by decide) (fun _ => ?_) (fun c9 => absurd (by decide) c9)
              refine lv_iload_n hx hb dX5_takeOthers_78 rfl (lv_at hl 1 rfl) ?_
              refine lv_istore_n (lv' := [(3, .int (nI 0)), (4, .int (x ||| to)), (0, .ref (h 0)), (1, .int sg), (2, .ref (h 17))]) hx hb dX5_takeOthers_79 rfl hl (by decide) rfl (fun ls hl => ?_)
              refine lv_aload_n hx hb dX5_takeOthers_80 rfl (lv_at hl 4 rfl) ?_
              refine lv_aload_n hx hb dX5_takeOthers_81 rfl (lv_at hl 2 rfl) ?_
              refine va_get (D := gD G) (ci := 5) (v := .int (w25.1 15)) (C := RX5) (T := TX5) (N := 38) hx hb hts hiX5 hown hK hP 0 rfl rfl 15 (by decide) k129 (fun _ h9 => h9) rfl dX5_takeOthers_82 ?_
              refine topE ((hR25.1 15 (by decide)).trans ((hR.1 15 (by decide)).trans hrv)) ?_
              refine lv_dup2_11 hx hb dX5_takeOthers_85 rfl rfl ?_
              refine ialdN (f := w25.2 17) (n := 24) (k := rv) hx hb hK hP 9 rfl rfl (by omega) dX5_takeOthers_86 ?_
              refine topE (show _ = x from by show ((w25.2 17)) rv = x; rw [hR25.2 17 (by decide)]; show (w.2 17) rv = x; rw [eK]; exact pk_us) ?_
              refine lv_iload_n hx hb dX5_takeOthers_87 rfl (lv_at hl 0 rfl) ?_
              refine lv_if_ne (tgt := 100) hx hb dX5_takeOthers_88 (by decide) (fun c9 => absurd (by decide) c9) (fun _ => ?_)
              refine lv_iconst (v := (1 : Int32)) hx hb dX5_takeOthers_91 (by decide) ?_
              refine lv_aload_n hx hb dX5_takeOthers_92 rfl (lv_at hl 2 rfl) ?_
              refine va_get (D := gD G) (ci := 5) (v := .int (w25.1 13)) (C := RX5) (T := TX5) (N := 38) hx hb hts hiX5 hown hK hP 0 rfl rfl 13 (by decide) k123 (fun _ h9 => h9) rfl dX5_takeOthers_93 ?_
              refine topE en25 ?_
              refine lv_ishl hx hb dX5_takeOthers_96 ?_
              refine lv_goto (tgt := 101) hx hb dX5_takeOthers_97 (by decide) ?_
              refine lv_ior hx hb dX5_takeOthers_101 ?_
              refine iastN (f := w25.2 17) (n := 24) (k := rv) hx hb hK hP hD hS 9 rfl rfl (by omega) dX5_takeOthers_102 (fun H locs hP hD hS => ?_)
              have hP : PP G (mw G h (oA w25 17 (upd (w25.2 17) rv (x ||| ((1 : Int32) <<< ((nI (nV tx nt ((sk tx nt b) + 1))) &&& 31))))) lt sj) H := hP
              have hD : va_D A (mw G h (oA w25 17 (upd (w25.2 17) rv (x ||| ((1 : Int32) <<< ((nI (nV tx nt ((sk tx nt b) + 1))) &&& 31))))) lt sj) := hD
              refine lv_goto (tgt := 2) hx hb dX5_takeOthers_103 (by decide) ?_
              exact ih2 0 (oA w25 17 (upd (w25.2 17) rv (x ||| ((1 : Int32) <<< ((nI (nV tx nt ((sk tx nt b) + 1))) &&& 31))))) (nE tx nt ((sk tx nt b) + 1)) (x ||| (1 : Int32) <<< (nI (nV tx nt (sk tx nt b + 1)) &&& 31)) (by repeat (first | exact rel.refl _ | exact rel.mono (by assumption) (by decide) (by decide) | refine rel.I (by decide) ?_ | refine rel.A (by decide) ?_ | refine rel.trans ?_ (rel.mono (by assumption) (by decide) (by decide)))) (hb25) (by first | assumption | omega) (by first | assumption | omega) (by first | assumption | omega) (htx25) (fun _ => ⟨(oth_s hsm c11 hf25 (by rw [Int32.or_comm]; exact hasb_f hn60) (by omega)).trans hO, e1125.trans h11, by show upd (w25.2 17) rv _ = _; rw [hR25.2 17 (by decide)]; show upd (w.2 17) rv _ = _; rw [eK, upd_upd], (hR25.2 18 (by decide)).trans eO⟩) (fun q => absurd rfl q) (by omega) _ _ ls hP hD hS (lv_sub hl [2, 3, 4, 0] rfl)
          · skip
            have hP : PP G (mw G h w25 lt sj) H := hP
            have hD : va_D A (mw G h w25 lt sj) := hD
            have htx25 : w25.2 9 = tx := (hR25.2 9 (by decide)).trans (htx_w)
            have hEg25 : ((sk tx nt b) + 1) ≤ nE tx nt ((sk tx nt b) + 1) := nE_ge _ _ _
            have hEl25 : nE tx nt ((sk tx nt b) + 1) ≤ nt := nE_le (by omega)
            refine lv_istore_n (lv' := [(3, .int (nI 1)), (0, .ref (h 0)), (1, .int sg), (2, .ref (h 17))]) hx hb dX5_takeOthers_28 rfl hl (by decide) rfl (fun ls hl => ?_)
            refine lv_aload_n hx hb dX5_takeOthers_29 rfl (lv_at hl 1 rfl) ?_
            refine va_get (D := gD G) (ci := 5) (v := .ref (h 17)) (C := RX5) (T := TX5) (N := 38) hx hb hts hiX5 hown hK hP 0 rfl rfl 17 (by decide) k38 (fun _ h9 => h9) rfl dX5_takeOthers_30 ?_
            refine lv_aload_n hx hb dX5_takeOthers_33 rfl (lv_at hl 1 rfl) ?_
            refine va_get (D := gD G) (ci := 5) (v := .int (w25.1 15)) (C := RX5) (T := TX5) (N := 38) hx hb hts hiX5 hown hK hP 0 rfl rfl 15 (by decide) k129 (fun _ h9 => h9) rfl dX5_takeOthers_34 ?_
            refine topE ((hR25.1 15 (by decide)).trans ((hR.1 15 (by decide)).trans hrv)) ?_
            refine ialdN (f := w25.2 17) (n := 24) (k := rv) hx hb hK hP 9 rfl rfl (by omega) dX5_takeOthers_37 ?_
            refine topE (show _ = x from by show ((w25.2 17)) rv = x; rw [hR25.2 17 (by decide)]; show (w.2 17) rv = x; rw [eK]; exact pk_us) ?_
            refine lv_aload_n hx hb dX5_takeOthers_38 rfl (lv_at hl 1 rfl) ?_
            refine va_get (D := gD G) (ci := 5) (v := .ref (h 18)) (C := RX5) (T := TX5) (N := 38) hx hb hts hiX5 hown hK hP 0 rfl rfl 18 (by decide) k41 (fun _ h9 => h9) rfl dX5_takeOthers_39 ?_
            refine lv_aload_n hx hb dX5_takeOthers_42 rfl (lv_at hl 1 rfl) ?_
            refine va_get (D := gD G) (ci := 5) (v := .int (w25.1 15)) (C := RX5) (T := TX5) (N := 38) hx hb hts hiX5 hown hK hP 0 rfl rfl 15 (by decide) k129 (fun _ h9 => h9) rfl dX5_takeOthers_43 ?_
            refine topE ((hR25.1 15 (by decide)).trans ((hR.1 15 (by decide)).trans hrv)) ?_
            refine ialdN (f := w25.2 18) (n := 24) (k := rv) hx hb hK hP 10 rfl rfl (by omega) dX5_takeOthers_46 ?_
            refine topE (show _ = to from by show ((w25.2 18)) rv = to; rw [hR25.2 18 (by decide)]; show (w.2 18) rv = to; rw [eO]; exact hto) ?_
            refine lv_ior hx hb dX5_takeOthers_47 ?_
            refine lv_istore (lv' := [(4, .int (x ||| to)), (3, .int (nI 1)), (0, .ref (h 0)), (1, .int sg), (2, .ref (h 17))]) hx hb dX5_takeOthers_48 hl (by decide) rfl (fun ls hl => ?_)
            refine lv_iload_n hx hb dX5_takeOthers_50 rfl (lv_at hl 1 rfl) ?_
            refine lv_if_ne (tgt := 78) hx hb dX5_takeOthers_51 (by decide) (fun _ => ?_) (fun c9 => absurd c9 (by decide))
            refine lv_iload_n hx hb dX5_takeOthers_78 rfl (lv_at hl 1 rfl) ?_
            refine lv_istore_n (lv' := [(3, .int (nI 1)), (4, .int (x ||| to)), (0, .ref (h 0)), (1, .int sg), (2, .ref (h 17))]) hx hb dX5_takeOthers_79 rfl hl (by decide) rfl (fun ls hl => ?_)
            refine lv_aload_n hx hb dX5_takeOthers_80 rfl (lv_at hl 4 rfl) ?_
            refine lv_aload_n hx hb dX5_takeOthers_81 rfl (lv_at hl 2 rfl) ?_
            refine va_get (D := gD G) (ci := 5) (v := .int (w25.1 15)) (C := RX5) (T := TX5) (N := 38) hx hb hts hiX5 hown hK hP 0 rfl rfl 15 (by decide) k129 (fun _ h9 => h9) rfl dX5_takeOthers_82 ?_
            refine topE ((hR25.1 15 (by decide)).trans ((hR.1 15 (by decide)).trans hrv)) ?_
            refine lv_dup2_11 hx hb dX5_takeOthers_85 rfl rfl ?_
            refine ialdN (f := w25.2 17) (n := 24) (k := rv) hx hb hK hP 9 rfl rfl (by omega) dX5_takeOthers_86 ?_
            refine topE (show _ = x from by show ((w25.2 17)) rv = x; rw [hR25.2 17 (by decide)]; show (w.2 17) rv = x; rw [eK]; exact pk_us) ?_
            refine lv_iload_n hx hb dX5_takeOthers_87 rfl (lv_at hl 0 rfl) ?_
            refine lv_if_ne (tgt := 100) hx hb dX5_takeOthers_88 (by decide) (fun _ => ?_) (fun c9 => absurd c9 (by decide))
            refine lv_iconst (v := (0 : Int32)) hx hb dX5_takeOthers_100 (by decide) ?_
            refine lv_ior hx hb dX5_takeOthers_101 ?_
            refine iastN (f := w25.2 17) (n := 24) (k := rv) hx hb hK hP hD hS 9 rfl rfl (by omega) dX5_takeOthers_102 (fun H locs hP hD hS => ?_)
            have hP : PP G (mw G h (oA w25 17 (upd (w25.2 17) rv (x ||| (0 : Int32)))) lt sj) H := hP
            have hD : va_D A (mw G h (oA w25 17 (upd (w25.2 17) rv (x ||| (0 : Int32)))) lt sj) := hD
            refine lv_goto (tgt := 2) hx hb dX5_takeOthers_103 (by decide) ?_
            exact ih2 1 (oA w25 17 (upd (w25.2 17) rv (x ||| (0 : Int32)))) (nE tx nt ((sk tx nt b) + 1)) x (by repeat (first | exact rel.refl _ | exact rel.mono (by assumption) (by decide) (by decide) | refine rel.I (by decide) ?_ | refine rel.A (by decide) ?_ | refine rel.trans ?_ (rel.mono (by assumption) (by decide) (by decide)))) (hb25) (by first | assumption | omega) (by first | assumption | omega) (by first | assumption | omega) (htx25) (fun q => absurd q (by decide)) (fun _ => ⟨sk tx nt (sk tx nt b + 1), nE tx nt (sk tx nt b + 1), x, hO.symm.trans ((oth_f c11 (by rw [hf25]; decide) (by omega)).trans (by rw [hf25])), e1125⟩) (by omega) _ _ ls hP hD hS (lv_sub hl [2, 3, 4, 0] rfl)
          · skip
            have hP : PP G (mw G h w25 lt sj) H := hP
            have hD : va_D A (mw G h w25 lt sj) := hD
            have htx25 : w25.2 9 = tx := (hR25.2 9 (by decide)).trans (htx_w)
            have hEg25 : ((sk tx nt b) + 1) ≤ nE tx nt ((sk tx nt b) + 1) := nE_ge _ _ _
            have hEl25 : nE tx nt ((sk tx nt b) + 1) ≤ nt := nE_le (by omega)
            refine lv_istore_n (lv' := [(3, .int (nI 2)), (0, .ref (h 0)), (1, .int sg), (2, .ref (h 17))]) hx hb dX5_takeOthers_28 rfl hl (by decide) rfl (fun ls hl => ?_)
            refine lv_aload_n hx hb dX5_takeOthers_29 rfl (lv_at hl 1 rfl) ?_
            refine va_get (D := gD G) (ci := 5) (v := .ref (h 17)) (C := RX5) (T := TX5) (N := 38) hx hb hts hiX5 hown hK hP 0 rfl rfl 17 (by decide) k38 (fun _ h9 => h9) rfl dX5_takeOthers_30 ?_
            refine lv_aload_n hx hb dX5_takeOthers_33 rfl (lv_at hl 1 rfl) ?_
            refine va_get (D := gD G) (ci := 5) (v := .int (w25.1 15)) (C := RX5) (T := TX5) (N := 38) hx hb hts hiX5 hown hK hP 0 rfl rfl 15 (by decide) k129 (fun _ h9 => h9) rfl dX5_takeOthers_34 ?_
            refine topE ((hR25.1 15 (by decide)).trans ((hR.1 15 (by decide)).trans hrv)) ?_
            refine ialdN (f := w25.2 17) (n := 24) (k := rv) hx hb hK hP 9 rfl rfl (by omega) dX5_takeOthers_37 ?_
            refine topE (show _ = x from by show ((w25.2 17)) rv = x; rw [hR25.2 17 (by decide)]; show (w.2 17) rv = x; rw [eK]; exact pk_us) ?_
            refine lv_aload_n hx hb dX5_takeOthers_38 rfl (lv_at hl 1 rfl) ?_
            refine va_get (D := gD G) (ci := 5) (v := .ref (h 18)) (C := RX5) (T := TX5) (N := 38) hx hb hts hiX5 hown hK hP 0 rfl rfl 18 (by decide) k41 (fun _ h9 => h9) rfl dX5_takeOthers_39 ?_
            refine lv_aload_n hx hb dX5_takeOthers_42 rfl (lv_at hl 1 rfl) ?_
            refine va_get (D := gD G) (ci := 5) (v := .int (w25.1 15)) (C := RX5) (T := TX5) (N := 38) hx hb hts hiX5 hown hK hP 0 rfl rfl 15 (by decide) k129 (fun _ h9 => h9) rfl dX5_takeOthers_43 ?_
            refine topE ((hR25.1 15 (by decide)).trans ((hR.1 15 (by decide)).trans hrv)) ?_
            refine ialdN (f := w25.2 18) (n := 24) (k := rv) hx hb hK hP 10 rfl rfl (by omega) dX5_takeOthers_46 ?_
            refine topE (show _ = to from by show ((w25.2 18)) rv = to; rw [hR25.2 18 (by decide)]; show (w.2 18) rv = to; rw [eO]; exact hto) ?_
            refine lv_ior hx hb dX5_takeOthers_47 ?_
            refine lv_istore (lv' := [(4, .int (x ||| to)), (3, .int (nI 2)), (0, .ref (h 0)), (1, .int sg), (2, .ref (h 17))]) hx hb dX5_takeOthers_48 hl (by decide) rfl (fun ls hl => ?_)
            refine lv_iload_n hx hb dX5_takeOthers_50 rfl (lv_at hl 1 rfl) ?_
            refine lv_if_ne (tgt := 78) hx hb dX5_takeOthers_51 (by decide) (fun _ => ?_) (fun c9 => absurd c9 (by decide))
            refine lv_iload_n hx hb dX5_takeOthers_78 rfl (lv_at hl 1 rfl) ?_
            refine lv_istore_n (lv' := [(3, .int (nI 2)), (4, .int (x ||| to)), (0, .ref (h 0)), (1, .int sg), (2, .ref (h 17))]) hx hb dX5_takeOthers_79 rfl hl (by decide) rfl (fun ls hl => ?_)
            refine lv_aload_n hx hb dX5_takeOthers_80 rfl (lv_at hl 4 rfl) ?_
            refine lv_aload_n hx hb dX5_takeOthers_81 rfl (lv_at hl 2 rfl) ?_
            refine va_get (D := gD G) (ci := 5) (v := .int (w25.1 15)) (C := RX5) (T := TX5) (N := 38) hx hb hts hiX5 hown hK hP 0 rfl rfl 15 (by decide) k129 (fun _ h9 => h9) rfl dX5_takeOthers_82 ?_
            refine topE ((hR25.1 15 (by decide)).trans ((hR.1 15 (by decide)).trans hrv)) ?_
            refine lv_dup2_11 hx hb dX5_takeOthers_85 rfl rfl ?_
            refine ialdN (f := w25.2 17) (n := 24) (k := rv) hx hb hK hP 9 rfl rfl (by omega) dX5_takeOthers_86 ?_
            refine topE (show _ = x from by show ((w25.2 17)) rv = x; rw [hR25.2 17 (by decide)]; show (w.2 17) rv = x; rw [eK]; exact pk_us) ?_
            refine lv_iload_n hx hb dX5_takeOthers_87 rfl (lv_at hl 0 rfl) ?_
            refine lv_if_ne (tgt := 100) hx hb dX5_takeOthers_88 (by decide) (fun _ => ?_) (fun c9 => absurd c9 (by decide))
            refine lv_iconst (v := (0 : Int32)) hx hb dX5_takeOthers_100 (by decide) ?_
            refine lv_ior hx hb dX5_takeOthers_101 ?_
            refine iastN (f := w25.2 17) (n := 24) (k := rv) hx hb hK hP hD hS 9 rfl rfl (by omega) dX5_takeOthers_102 (fun H locs hP hD hS => ?_)
            have hP : PP G (mw G h (oA w25 17 (upd (w25.2 17) rv (x ||| (0 : Int32)))) lt sj) H := hP
            have hD : va_D A (mw G h (oA w25 17 (upd (w25.2 17) rv (x ||| (0 : Int32)))) lt sj) := hD
            refine lv_goto (tgt := 2) hx hb dX5_takeOthers_103 (by decide) ?_
            exact ih2 2 (oA w25 17 (upd (w25.2 17) rv (x ||| (0 : Int32)))) (nE tx nt ((sk tx nt b) + 1)) x (by repeat (first | exact rel.refl _ | exact rel.mono (by assumption) (by decide) (by decide) | refine rel.I (by decide) ?_ | refine rel.A (by decide) ?_ | refine rel.trans ?_ (rel.mono (by assumption) (by decide) (by decide)))) (hb25) (by first | assumption | omega) (by first | assumption | omega) (by first | assumption | omega) (htx25) (fun q => absurd q (by decide)) (fun _ => ⟨sk tx nt (sk tx nt b + 1), nE tx nt (sk tx nt b + 1), x, hO.symm.trans ((oth_f c11 (by rw [hf25]; decide) (by omega)).trans (by rw [hf25])), e1125⟩) (by omega) _ _ ls hP hD hS (lv_sub hl [2, 3, 4, 0] rfl)
  exact LP2 (nt - a0 + 1) 0 u a0 (nI 0) (by repeat (first | exact rel.refl _ | exact rel.mono (by assumption) (by decide) (by decide) | refine rel.I (by decide) ?_ | refine rel.A (by decide) ?_ | refine rel.trans ?_ (rel.mono (by assumption) (by decide) (by decide)))) (ha0) (by first | assumption | omega) (by first | assumption | omega) (by first | assumption | omega) (htx) (fun _ => ⟨rfl, rfl, (upd_self hx0).symm, rfl⟩) (fun q => absurd rfl q) (Nat.lt_succ_self _) _ _ ls hP hD hS (lv_sub hl [1, 2, 3, 0] rfl)
set_option maxHeartbeats 1000000 in
set_option maxRecDepth 100000 in
theorem mt_X5_takeOthers18 (l : Launch) (G : gG) (h : Nat → Nat) (sz : Nat) (u : oS) (lt : Int64) (sj : Nat → Int64) (nt : Nat) (a0 : Nat) (rv : Nat) (tx : Nat → Int32) (sg : Int32) (to : Int32) (hnt : u.1 10 = nI nt) (ha0 : u.1 12 = nI a0) (hrv : u.1 15 = nI rv) (hnt240 : nt ≤ 240) (hAn : a0 ≤ nt) (hRv : rv < 24) (htx : u.2 9 = tx) (hsm : ¬ sg = -1) (hx0 : u.2 18 rv = nI 0) (hto : u.2 17 rv = to) : Met l yX5_takeOthers wsX5_takeOthers ({ frames := 3, cells := 0, slots := 0, locals := 67 }) (preW G (mw G h u lt sj) sz [.ref (h 0), .int sg, .ref (h 18)]) (va_Qi (fun (r : Int32) (v : oS × Int64 × (Nat → Int64)) => (∃ w b x, v = (w, lt, sj) ∧ rdO u w ∧ w.1 12 = nI b ∧ a0 ≤ b ∧ b ≤ nt ∧ w.2 18 = upd (u.2 18) rv x ∧ w.2 17 = u.2 17 ∧ oth tx nt sg rv to a0 (nI 0) = (0, 0, b, x) ∧ w.1 11 = u.1 11 ∧ r = nI 0) ∨ (∃ w b f p e y, v = (w, lt, sj) ∧ rdO u w ∧ w.1 12 = nI b ∧ a0 ≤ b ∧ b ≤ nt ∧ oth tx nt sg rv to a0 (nI 0) = (f, p, e, y) ∧ w.1 11 = nI p ∧ r = nI f ∧ 0 < f ∧ f ≤ 4)) (fun v t => PP G (mw G h v.1 v.2.1 v.2.2) t.heap) (va_A (mw G h u lt sj) sz)) 0 0 (va_A (mw G h u lt sj) sz) := by
  refine Met.ofW (cc := cX5_takeOthers) (maxL := 5) (ret := (some .int)) (by decide) rfl ?_
  intro p e s m args below meth c s₁ B hml hv
  obtain ⟨ha, hsz, hP, hK, hN, hD0⟩ := hv
  subst ha
  have hx := B.exec
  have hb := B.bytes
  have hr := B.returns
  have hts := atoms_spec (ws := wsX5_takeOthers) B.pre
  have hown : s.vm.findClass RX5 = some m.cls := findClass_of_methodNamed B.named
  have hlocks := B.notSynchronized
  subst hsz
  have hD := hD0.self (sz := s.heap.size)
  generalize hAe : va_A (mw G h u lt sj) s.heap.size = A at hD ⊢
  have hA : ∀ q : Nat, s.heap.size ≤ q → A q := fun q h => by rw [← hAe]; exact Or.inr h
  clear hAe hD0
  have hS : va_S A s.heap s.heap [] := va_S.rf
  have hiX5 : ∀ w ∈ wsX50, w ∈ wsX5_takeOthers := fun w h9 => List.mem_cons_of_mem _ (List.mem_append_right _ (h9))
  have k105 := hts (.fieldLink RX5 105 "WovenHistoryModel" "at0" "I") (List.mem_of_getElem? (i := 1) rfl)
  have k38 := hts (.fieldLink RX5 38 "WovenHistoryModel" "readIncludes" "[I") (List.mem_of_getElem? (i := 2) rfl)
  have k129 := hts (.fieldLink RX5 129 "WovenHistoryModel" "readVersions" "I") (List.mem_of_getElem? (i := 3) rfl)
  have k41 := hts (.fieldLink RX5 41 "WovenHistoryModel" "readExcludes" "[I") (List.mem_of_getElem? (i := 4) rfl)
  have k123 := hts (.fieldLink RX5 123 "WovenHistoryModel" "number" "I") (List.mem_of_getElem? (i := 5) rfl)
  have k120 := hts (.fieldLink RX5 120 "WovenHistoryModel" "numberAt" "I") (List.mem_of_getElem? (i := 6) rfl)
  have hl := lv_entry ([.ref (h 0), .int sg, .ref (h 18)]) (n := 5) (Nat.le_of_ble_eq_true rfl)
  rw [lg_entry_eq]
  generalize (lg_sl ([.ref (h 0), .int sg, .ref (h 18)]) ++ List.replicate (5 - (lg_sl ([.ref (h 0), .int sg, .ref (h 18)])).length) Slot.unset).toArray = ls at hl ⊢
  have hl : lv_has ls 5 [(0, .ref (h 0)), (1, .int sg), (2, .ref (h 18))] := hl
  refine lv_iconst (v := nI 0) hx hb dX5_takeOthers_0 (by decide) ?_
  refine lv_istore_n (lv' := [(3, .int (nI 0)), (0, .ref (h 0)), (1, .int sg), (2, .ref (h 18))]) hx hb dX5_takeOthers_1 rfl hl (by decide) rfl (fun ls hl => ?_)
  have LP2 : ∀ (n2m : Nat), ∀ (f : Nat) (w : oS) (b : Nat) (x : Int32) (hR : rdO u w) (hbq : w.1 12 = nI b) (hab : a0 ≤ b) (hbn : b ≤ nt) (hf : f ≤ 4) (htx_w : w.2 9 = tx) (hF0 : f = 0 → oth tx nt sg rv to b x = oth tx nt sg rv to a0 (nI 0) ∧ w.1 11 = u.1 11 ∧ w.2 18 = upd (u.2 18) rv x ∧ w.2 17 = u.2 17) (hF1 : ¬ f = 0 → ∃ p e y, oth tx nt sg rv to a0 (nI 0) = (f, p, e, y) ∧ w.1 11 = nI p), (nt - b < n2m) → ∀ (H : Heap) (locs : List Loc) (ls : Array Slot), PP G (mw G h w lt sj) H → va_D A (mw G h w lt sj) → va_S A s.heap H locs → lv_has ls 5 [(0, .ref (h 0)), (1, .int sg), (2, .ref (h 18)), (3, .int (nI f))] → W p l e (headSpec wsX5_takeOthers ({ frames := 3, cells := 0, slots := 0, locals := 67 })).room s m ([.ref (h 0), .int sg, .ref (h 18)] : List Value).toArray below meth c H locs 0 0 (MQ below (va_Qi (fun (r : Int32) (v : oS × Int64 × (Nat → Int64)) => (∃ w b x, v = (w, lt, sj) ∧ rdO u w ∧ w.1 12 = nI b ∧ a0 ≤ b ∧ b ≤ nt ∧ w.2 18 = upd (u.2 18) rv x ∧ w.2 17 = u.2 17 ∧ oth tx nt sg rv to a0 (nI 0) = (0, 0, b, x) ∧ w.1 11 = u.1 11 ∧ r = nI 0) ∨ (∃ w b f p e y, v = (w, lt, sj) ∧ rdO u w ∧ w.1 12 = nI b ∧ a0 ≤ b ∧ b ≤ nt ∧ oth tx nt sg rv to a0 (nI 0) = (f, p, e, y) ∧ w.1 11 = nI p ∧ r = nI f ∧ 0 < f ∧ f ≤ 4)) (fun v t => PP G (mw G h v.1 v.2.1 v.2.2) t.heap) A) ([.ref (h 0), .int sg, .ref (h 18)] : List Value).toArray s 0 0 A) (F0 m 2 ls []) := by
    intro n2m
    induction n2m with
    | zero => intro f w b x hR hbq hab hbn hf htx_w hF0 hF1 hmu H locs ls hP hD hS hl; exact absurd hmu (Nat.not_lt_zero _)
    | succ n2m ih2 =>
      intro f w b x hR hbq hab hbn hf htx_w hF0 hF1 hmu H locs ls hP hD hS hl
      refine lv_iload_n hx hb dX5_takeOthers_2 rfl (lv_at hl 3 rfl) ?_
      refine lv_if_ne (tgt := 106) hx hb dX5_takeOthers_3 (by decide) (fun c3 => ?_) (fun c3 => ?_)
      · skip
        have n3 : ¬ (f = 0) := fun q9 => c3 ((nI_eq (a := f) (b := 0) (by omega) (by omega)).mpr q9)
        refine lv_iload_n hx hb dX5_takeOthers_106 rfl (lv_at hl 3 rfl) ?_
        exact W.iret (v := nI f) hx hb hr (fun t ht hW => ⟨⟨nI f, (w, lt, sj), rfl, by obtain ⟨p9, e9, y9, h9, h10⟩ := hF1 n3; exact Or.inr ⟨w, b, f, p9, e9, y9, rfl, hR, hbq, hab, hbn, h9, h10, rfl, by omega, hf⟩, show PP G (mw G h w lt sj) t.heap by rw [ht]; exact hP⟩, hS.F ht⟩) hS.2.2 dX5_takeOthers_107
      · skip
        have n3 : f = 0 := (nI_eq (a := f) (b := 0) (by omega) (by omega)).mp c3
        obtain ⟨hO, h11, eK, eO⟩ := hF0 n3
        refine lv_aload_n hx hb dX5_takeOthers_6 rfl (lv_at hl 0 rfl) ?_
        refine cXi (As := []) (rest := []) (S := oS × Int64 × (Nat → Int64)) (wa := mw G h w lt sj) (w1 := fun v => mw G h v.1 v.2.1 v.2.2) ⟨hx, hb, hml, hown, hts⟩ (mt_X5_here l G h _ w lt sj nt b tx ((hR.1 10 (by decide)).trans hnt) (hbq) (by first | assumption | omega) (by first | assumption | omega) (htx_w)) (cwV 0 hts gX5_takeOthers_X5_here rfl rfl rfl ⟨rfl, hd_X5_here⟩ ⟨Nat.le_of_ble_eq_true rfl, Nat.le_of_ble_eq_true rfl⟩) hK hN hP hD hS hA (fun _ => rfl) 0 5 rfl rfl rfl hl.1 rfl (Nat.le_of_ble_eq_true rfl) ⟨Nat.zero_le _, Nat.zero_le _⟩ dX5_takeOthers_7 (fun r7 u7 H locs hw7 hP hD hS => ?_)
        obtain ⟨rfl, rfl⟩ := hw7
        have hP : PP G (mw G h (oI w 12 (nI (sk tx nt b))) lt sj) H := hP
        have hD : va_D A (mw G h (oI w 12 (nI (sk tx nt b))) lt sj) := hD
        have hge7 : b ≤ sk tx nt b := rn_ge _
        have hle7 : sk tx nt b ≤ nt := rn_le (by omega)
        refine lv_iload_n hx hb dX5_takeOthers_10 rfl (lv_at hl 1 rfl) ?_
        refine lv_icmp_ne (tgt := 106) hx hb dX5_takeOthers_11 (by decide) (fun c11 => ?_) (fun c11 => ?_)
        · skip
          refine lv_iload_n hx hb dX5_takeOthers_106 rfl (lv_at hl 3 rfl) ?_
          exact W.iret (v := nI f) hx hb hr (fun t ht hW => ⟨⟨nI f, (oI w 12 (nI (sk tx nt b)), lt, sj), rfl, Or.inl ⟨_, sk tx nt b, x, rfl, by repeat (first | exact rel.refl _ | exact rel.mono (by assumption) (by decide) (by decide) | refine rel.I (by decide) ?_ | refine rel.A (by decide) ?_ | refine rel.trans ?_ (rel.mono (by assumption) (by decide) (by decide))), rfl, by omega, by omega, eK, eO, hO.symm.trans (oth_e c11 (by omega)), h11, by rw [n3]⟩, show PP G (mw G h (oI w 12 (nI (sk tx nt b))) lt sj) t.heap by rw [ht]; exact hP⟩, hS.F ht⟩) hS.2.2 dX5_takeOthers_107
        · skip
          have hbl := hd_c c11 hsm
          refine lv_aload_n hx hb dX5_takeOthers_14 rfl (lv_at hl 0 rfl) ?_
          refine lv_dup hx hb dX5_takeOthers_15 rfl ?_
          refine va_get (D := gD G) (ci := 5) (v := .int (nI (sk tx nt b))) (C := RX5) (T := TX5) (N := 38) hx hb hts hiX5 hown hK hP 0 rfl rfl 12 (by decide) k105 (fun _ h9 => h9) rfl dX5_takeOthers_16 ?_
          refine lv_iconst (v := nI 1) hx hb dX5_takeOthers_19 (by decide) ?_
          refine lv_iadd hx hb dX5_takeOthers_20 ?_
          refine topE (y := nI ((sk tx nt b) + 1)) (nI_add (sk tx nt b) 1) ?_
          refine va_put (D := gD G) (ci := 5) (v := .int (nI ((sk tx nt b) + 1))) (ty := .int) (C := RX5) (T := TX5) (N := 38) hx hb hts hiX5 tyX5 tyX5_ok nmX5 hown hK hP hD hS 0 rfl rfl 12 (by decide) k105 (fun _ h9 => h9) rfl (tyX5_ok 12 (by decide)) (rfl) (rfl) (Nat.le_of_ble_eq_true rfl) dX5_takeOthers_21 (fun H locs hP hD hS => ?_)
          have hP : PP G (mw G h (oI (oI w 12 (nI (sk tx nt b))) 12 (nI ((sk tx nt b) + 1))) lt sj) H := hP
          have hD : va_D A (mw G h (oI (oI w 12 (nI (sk tx nt b))) 12 (nI ((sk tx nt b) + 1))) lt sj) := hD
          refine lv_aload_n hx hb dX5_takeOthers_24 rfl (lv_at hl 0 rfl) ?_
          refine cXi (As := []) (rest := []) (S := oS × Int64 × (Nat → Int64)) (wa := mw G h (oI (oI w 12 (nI (sk tx nt b))) 12 (nI ((sk tx nt b) + 1))) lt sj) (w1 := fun v => mw G h v.1 v.2.1 v.2.2) ⟨hx, hb, hml, hown, hts⟩ (mt_X5_takeVersionNumber l G h _ (oI (oI w 12 (nI (sk tx nt b))) 12 (nI ((sk tx nt b) + 1))) lt sj nt ((sk tx nt b) + 1) rv tx ((hR.1 10 (by decide)).trans hnt) (rfl) ((hR.1 15 (by decide)).trans hrv) (by first | assumption | omega) (by first | assumption | omega) (by first | assumption | omega) (htx_w)) (cwV 0 hts gX5_takeOthers_X5_takeVersionNumber rfl rfl rfl ⟨rfl, hd_X5_takeVersionNumber⟩ ⟨Nat.le_of_ble_eq_true rfl, Nat.le_of_ble_eq_true rfl⟩) hK hN hP hD hS hA (fun _ => rfl) 0 5 rfl rfl rfl hl.1 rfl (Nat.le_of_ble_eq_true rfl) ⟨Nat.zero_le _, Nat.zero_le _⟩ dX5_takeOthers_25 (fun r25 u25 H locs hw25 hP hD hS => ?_)
          rcases hw25 with ⟨w25, rfl, hR25, hb25, en25, e1425, e1125, hf25, rfl⟩ | ⟨w25, rfl, hR25, hb25, e1125, hf25, rfl⟩ | ⟨w25, rfl, hR25, hb25, e1125, hf25, rfl⟩
          · skip
            have hP : PP G (mw G h w25 lt sj) H := hP
            have hD : va_D A (mw G h w25 lt sj) := hD
            have htx25 : w25.2 9 = tx := (hR25.2 9 (by decide)).trans (htx_w)
            have hEg25 : ((sk tx nt b) + 1) ≤ nE tx nt ((sk tx nt b) + 1) := nE_ge _ _ _
            have hEl25 : nE tx nt ((sk tx nt b) + 1) ≤ nt := nE_le (by omega)
            have hV25 := (vF_ok hf25).2
            refine lv_istore_n (lv' := [(3, .int (nI 0)), (0, .ref (h 0)), (1, .int sg), (2, .ref (h 18))]) hx hb dX5_takeOthers_28 rfl hl (by decide) rfl (fun ls hl => ?_)
            refine lv_aload_n hx hb dX5_takeOthers_29 rfl (lv_at hl 1 rfl) ?_
            refine va_get (D := gD G) (ci := 5) (v := .ref (h 17)) (C := RX5) (T := TX5) (N := 38) hx hb hts hiX5 hown hK hP 0 rfl rfl 17 (by decide) k38 (fun _ h9 => h9) rfl dX5_takeOthers_30 ?_
            refine lv_aload_n hx hb dX5_takeOthers_33 rfl (lv_at hl 1 rfl) ?_
            refine va_get (D := gD G) (ci := 5) (v := .int (w25.1 15)) (C := RX5) (T := TX5) (N := 38) hx hb hts hiX5 hown hK hP 0 rfl rfl 15 (by decide) k129 (fun _ h9 => h9) rfl dX5_takeOthers_34 ?_
            refine topE ((hR25.1 15 (by decide)).trans ((hR.1 15 (by decide)).trans hrv)) ?_
            refine ialdN (f := w25.2 17) (n := 24) (k := rv) hx hb hK hP 9 rfl rfl (by omega) dX5_takeOthers_37 ?_
            refine topE (show _ = to from by show ((w25.2 17)) rv = to; rw [hR25.2 17 (by decide)]; show (w.2 17) rv = to; rw [eO]; exact hto) ?_
            refine lv_aload_n hx hb dX5_takeOthers_38 rfl (lv_at hl 1 rfl) ?_
            refine va_get (D := gD G) (ci := 5) (v := .ref (h 18)) (C := RX5) (T := TX5) (N := 38) hx hb hts hiX5 hown hK hP 0 rfl rfl 18 (by decide) k41 (fun _ h9 => h9) rfl dX5_takeOthers_39 ?_
            refine lv_aload_n hx hb dX5_takeOthers_42 rfl (lv_at hl 1 rfl) ?_
            refine va_get (D := gD G) (ci := 5) (v := .int (w25.1 15)) (C := RX5) (T := TX5) (N := 38) hx hb hts hiX5 hown hK hP 0 rfl rfl 15 (by decide) k129 (fun _ h9 => h9) rfl dX5_takeOthers_43 ?_
            refine topE ((hR25.1 15 (by decide)).trans ((hR.1 15 (by decide)).trans hrv)) ?_
            refine ialdN (f := w25.2 18) (n := 24) (k := rv) hx hb hK hP 10 rfl rfl (by omega) dX5_takeOthers_46 ?_
            refine topE (show _ = x from by show ((w25.2 18)) rv = x; rw [hR25.2 18 (by decide)]; show (w.2 18) rv = x; rw [eK]; exact pk_us) ?_
            refine lv_ior hx hb dX5_takeOthers_47 ?_
            refine lv_istore (lv' := [(4, .int (to ||| x)), (3, .int (nI 0)), (0, .ref (h 0)), (1, .int sg), (2, .ref (h 18))]) hx hb dX5_takeOthers_48 hl (by decide) rfl (fun ls hl => ?_)
            refine lv_iload_n hx hb dX5_takeOthers_50 rfl (lv_at hl 1 rfl) ?_
            refine lv_if_ne (tgt := 78) hx hb dX5_takeOthers_51 (by decide) (fun c9 => absurd (by decide) c9) (fun _ => ?_)
            refine lv_iload hx hb dX5_takeOthers_54 (lv_at hl 0 rfl) ?_
            refine lv_aload_n hx hb dX5_takeOthers_56 rfl (lv_at hl 2 rfl) ?_
            refine va_get (D := gD G) (ci := 5) (v := .int (w25.1 13)) (C := RX5) (T := TX5) (N := 38) hx hb hts hiX5 hown hK hP 0 rfl rfl 13 (by decide) k123 (fun _ h9 => h9) rfl dX5_takeOthers_57 ?_
            refine topE en25 ?_
            refine cSi (As := [.int (to ||| x), .int (nI (nV tx nt ((sk tx nt b) + 1)))]) (rest := []) ⟨hx, hb, hml, hown, hts⟩ (mt_X5_has l (to ||| x) (nI (nV tx nt ((sk tx nt b) + 1)))) (va_cwS 2 hts gX5_takeOthers_X5_has rfl rfl rfl hd_X5_has ⟨Nat.le_of_ble_eq_true rfl, Nat.le_of_ble_eq_true rfl⟩) rfl hl.1 rfl (Nat.le_of_ble_eq_true rfl) ⟨Nat.zero_le _, Nat.zero_le _⟩ dX5_takeOthers_60 (fun r60 hw60 => ?_)
            rcases hw60 with ⟨rfl, hy60⟩ | ⟨rfl, hn60⟩
            · skip
              refine lv_if_eq (tgt := 78) hx hb dX5_takeOthers_63 (by decide) (fun c9 => absurd c9 (by decide)) (fun _ => ?_)
              refine lv_aload_n hx hb dX5_takeOthers_66 rfl (lv_at hl 2 rfl) ?_
              refine lv_iconst (v := nI 4) hx hb dX5_takeOthers_67 (by decide) ?_
              refine lv_aload_n hx hb dX5_takeOthers_68 rfl (lv_at hl 2 rfl) ?_
              refine va_get (D := gD G) (ci := 5) (v := .int (w25.1 14)) (C := RX5) (T := TX5) (N := 38) hx hb hts hiX5 hown hK hP 0 rfl rfl 14 (by decide) k120 (fun _ h9 => h9) rfl dX5_takeOthers_69 ?_
              refine topE e1425 ?_
              refine cXi (As := [.int (nI 4), .int (nI (sk tx nt ((sk tx nt b) + 1)))]) (rest := []) (S := oS × Int64 × (Nat → Int64)) (wa := mw G h w25 lt sj) (w1 := fun v => mw G h v.1 v.2.1 v.2.2) ⟨hx, hb, hml, hown, hts⟩ (mt_X5_fails l G h _ w25 lt sj (nI 4) (nI (sk tx nt ((sk tx nt b) + 1)))) (cwV 2 hts gX5_takeOthers_X5_fails rfl rfl rfl ⟨rfl, hd_X5_fails⟩ ⟨Nat.le_of_ble_eq_true rfl, Nat.le_of_ble_eq_true rfl⟩) hK hN hP hD hS hA (fun _ => rfl) 0 5 rfl rfl rfl hl.1 rfl (Nat.le_of_ble_eq_true rfl) ⟨Nat.zero_le _, Nat.zero_le _⟩ dX5_takeOthers_72 (fun r72 u72 H locs hw72 hP hD hS => ?_)
              obtain ⟨rfl, rfl⟩ := hw72
              have hP : PP G (mw G h (oI w25 11 (nI (sk tx nt ((sk tx nt b) + 1)))) lt sj) H := hP
              have hD : va_D A (mw G h (oI w25 11 (nI (sk tx nt ((sk tx nt b) + 1)))) lt sj) := hD
              refine lv_goto (tgt := 79) hx hb dX5_takeOthers_75 (by decide) ?_
              refine lv_istore_n (lv' := [(3, .int (nI 4)), (4, .int (to ||| x)), (0, .ref (h 0)), (1, .int sg), (2, .ref (h 18))]) hx hb dX5_takeOthers_79 rfl hl (by decide) rfl (fun ls hl => ?_)
              refine lv_aload_n hx hb dX5_takeOthers_80 rfl (lv_at hl 4 rfl) ?_
              refine lv_aload_n hx hb dX5_takeOthers_81 rfl (lv_at hl 2 rfl) ?_
              refine va_get (D := gD G) (ci := 5) (v := .int ((oI w25 11 (nI (sk tx nt ((sk tx nt b) + 1)))).1 15)) (C := RX5) (T := TX5) (N := 38) hx hb hts hiX5 hown hK hP 0 rfl rfl 15 (by decide) k129 (fun _ h9 => h9) rfl dX5_takeOthers_82 ?_
              refine topE ((hR25.1 15 (by decide)).trans ((hR.1 15 (by decide)).trans hrv)) ?_
              refine lv_dup2_11 hx hb dX5_takeOthers_85 rfl rfl ?_
              refine ialdN (f := (oI w25 11 (nI (sk tx nt ((sk tx nt b) + 1)))).2 18) (n := 24) (k := rv) hx hb hK hP 10 rfl rfl (by omega) dX5_takeOthers_86 ?_
              refine topE (show _ = x from by show ((w25.2 18)) rv = x; rw [hR25.2 18 (by decide)]; show (w.2 18) rv = x; rw [eK]; exact pk_us) ?_
              refine lv_iload_n hx hb dX5_takeOthers_87 rfl (lv_at hl 0 rfl) ?_
              refine lv_if_ne (tgt := 100) hx hb dX5_takeOthers_88 (by decide) (fun _ => ?_) (fun c9 => absurd c9 (by decide))
              refine lv_iconst (v := (0 : Int32)) hx hb dX5_takeOthers_100 (by decide) ?_
              refine lv_ior hx hb dX5_takeOthers_101 ?_
              refine iastN (f := (oI w25 11 (nI (sk tx nt ((sk tx nt b) + 1)))).2 18) (n := 24) (k := rv) hx hb hK hP hD hS 10 rfl rfl (by omega) dX5_takeOthers_102 (fun H locs hP hD hS => ?_)
              have hP : PP G (mw G h (oA (oI w25 11 (nI (sk tx nt ((sk tx nt b) + 1)))) 18 (upd ((oI w25 11 (nI (sk tx nt ((sk tx nt b) + 1)))).2 18) rv (x ||| (0 : Int32)))) lt sj) H := hP
              have hD : va_D A (mw G h (oA (oI w25 11 (nI (sk tx nt ((sk tx nt b) + 1)))) 18 (upd ((oI w25 11 (nI (sk tx nt ((sk tx nt b) + 1)))).2 18) rv (x ||| (0 : Int32)))) lt sj) := hD
              refine lv_goto (tgt := 2) hx hb dX5_takeOthers_103 (by decide) ?_
              exact ih2 4 (oA (oI w25 11 (nI (sk tx nt ((sk tx nt b) + 1)))) 18 (upd ((oI w25 11 (nI (sk tx nt ((sk tx nt b) + 1)))).2 18) rv (x ||| (0 : Int32)))) (nE tx nt ((sk tx nt b) + 1)) x (by repeat (first | exact rel.refl _ | exact rel.mono (by assumption) (by decide) (by decide) | refine rel.I (by decide) ?_ | refine rel.A (by decide) ?_ | refine rel.trans ?_ (rel.mono (by assumption) (by decide) (by decide)))) (hb25) (by first | assumption | omega) (by first | assumption | omega) (by first | assumption | omega) (htx25) (fun q => absurd q (by decide)) (fun _ => ⟨sk tx nt (sk tx nt b + 1), nE tx nt (sk tx nt b + 1), x, hO.symm.trans (oth_4 c11 hf25 (hasb_t hy60) (by omega)), rfl⟩) (by omega) _ _ ls hP hD hS (lv_sub hl [2, 3, 4, 0] rfl)
            · skip
              refine lv_if_eq (tgt := 78) hx hb dX5_takeOthers_63 (by decide) (fun _ => ?_) (fun c9 => absurd (by decide) c9)
              refine lv_iload_n hx hb dX5_takeOthers_78 rfl (lv_at hl 1 rfl) ?_
              refine lv_istore_n (lv' := [(3, .int (nI 0)), (4, .int (to ||| x)), (0, .ref (h 0)), (1, .int sg), (2, .ref (h 18))]) hx hb dX5_takeOthers_79 rfl hl (by decide) rfl (fun ls hl => ?_)
              refine lv_aload_n hx hb dX5_takeOthers_80 rfl (lv_at hl 4 rfl) ?_
              refine lv_aload_n hx hb dX5_takeOthers_81 rfl (lv_at hl 2 rfl) ?_
              refine va_get (D := gD G) (ci := 5) (v := .int (w25.1 15)) (C := RX5) (T := TX5) (N := 38) hx hb hts hiX5 hown hK hP 0 rfl rfl 15 (by decide) k129 (fun _ h9 => h9) rfl dX5_takeOthers_82 ?_
              refine topE ((hR25.1 15 (by decide)).trans ((hR.1 15 (by decide)).trans hrv)) ?_
              refine lv_dup2_11 hx hb dX5_takeOthers_85 rfl rfl ?_
              refine ialdN (f := w25.2 18) (n := 24) (k := rv) hx hb hK hP 10 rfl rfl (by omega) dX5_takeOthers_86 ?_
              refine topE (show _ = x from by show ((w25.2 18)) rv = x; rw [hR25.2 18 (by decide)]; show (w.2 18) rv = x; rw [eK]; exact pk_us) ?_
              refine lv_iload_n hx hb dX5_takeOthers_87 rfl (lv_at hl 0 rfl) ?_
              refine lv_if_ne (tgt := 100) hx hb dX5_takeOthers_88 (by decide) (fun c9 => absurd (by decide) c9) (fun _ => ?_)
              refine lv_iconst (v := (1 : Int32)) hx hb dX5_takeOthers_91 (by decide) ?_
              refine lv_aload_n hx hb dX5_takeOthers_92 rfl (lv_at hl 2 rfl) ?_
              refine va_get (D := gD G) (ci := 5) (v := .int (w25.1 13)) (C := RX5) (T := TX5) (N := 38) hx hb hts hiX5 hown hK hP 0 rfl rfl 13 (by decide) k123 (fun _ h9 => h9) rfl dX5_takeOthers_93 ?_
              refine topE en25 ?_
              refine lv_ishl hx hb dX5_takeOthers_96 ?_
              refine lv_goto (tgt := 101) hx hb dX5_takeOthers_97 (by decide) ?_
              refine lv_ior hx hb dX5_takeOthers_101 ?_
              refine iastN (f := w25.2 18) (n := 24) (k := rv) hx hb hK hP hD hS 10 rfl rfl (by omega) dX5_takeOthers_102 (fun H locs hP hD hS => ?_)
              have hP : PP G (mw G h (oA w25 18 (upd (w25.2 18) rv (x ||| ((1 : Int32) <<< ((nI (nV tx nt ((sk tx nt b) + 1))) &&& 31))))) lt sj) H := hP
              have hD : va_D A (mw G h (oA w25 18 (upd (w25.2 18) rv (x ||| ((1 : Int32) <<< ((nI (nV tx nt ((sk tx nt b) + 1))) &&& 31))))) lt sj) := hD
              refine lv_goto (tgt := 2) hx hb dX5_takeOthers_103 (by decide) ?_
              exact ih2 0 (oA w25 18 (upd (w25.2 18) rv (x ||| ((1 : Int32) <<< ((nI (nV tx nt ((sk tx nt b) + 1))) &&& 31))))) (nE tx nt ((sk tx nt b) + 1)) (x ||| (1 : Int32) <<< (nI (nV tx nt (sk tx nt b + 1)) &&& 31)) (by repeat (first | exact rel.refl _ | exact rel.mono (by assumption) (by decide) (by decide) | refine rel.I (by decide) ?_ | refine rel.A (by decide) ?_ | refine rel.trans ?_ (rel.mono (by assumption) (by decide) (by decide)))) (hb25) (by first | assumption | omega) (by first | assumption | omega) (by first | assumption | omega) (htx25) (fun _ => ⟨(oth_s hsm c11 hf25 (hasb_f hn60) (by omega)).trans hO, e1125.trans h11, by show upd (w25.2 18) rv _ = _; rw [hR25.2 18 (by decide)]; show upd (w.2 18) rv _ = _; rw [eK, upd_upd], (hR25.2 17 (by decide)).trans eO⟩) (fun q => absurd rfl q) (by omega) _ _ ls hP hD hS (lv_sub hl [2, 3, 4, 0] rfl)
          · skip
            have hP : PP G (mw G h w25 lt sj) H := hP
            have hD : va_D A (mw G h w25 lt sj) := hD
            have htx25 : w25.2 9 = tx := (hR25.2 9 (by decide)).trans (htx_w)
            have hEg25 : ((sk tx nt b) + 1) ≤ nE tx nt ((sk tx nt b) + 1) := nE_ge _ _ _
            have hEl25 : nE tx nt ((sk tx nt b) + 1) ≤ nt := nE_le (by omega)
            refine lv_istore_n (lv' := [(3, .int (nI 1)), (0, .ref (h 0)), (1, .int sg), (2, .ref (h 18))]) hx hb dX5_takeOthers_28 rfl hl (by decide) rfl (fun ls hl => ?_)
            refine lv_aload_n hx hb dX5_takeOthers_29 rfl (lv_at hl 1 rfl) ?_
            refine va_get (D := gD G) (ci := 5) (v := .ref (h 17)) (C := RX5) (T := TX5) (N := 38) hx hb hts hiX5 hown hK hP 0 rfl rfl 17 (by decide) k38 (fun _ h9 => h9) rfl dX5_takeOthers_30 ?_
            refine lv_aload_n hx hb dX5_takeOthers_33 rfl (lv_at hl 1 rfl) ?_
            refine va_get (D := gD G) (ci := 5) (v := .int (w25.1 15)) (C := RX5) (T := TX5) (N := 38) hx hb hts hiX5 hown hK hP 0 rfl rfl 15 (by decide) k129 (fun _ h9 => h9) rfl dX5_takeOthers_34 ?_
            refine topE ((hR25.1 15 (by decide)).trans ((hR.1 15 (by decide)).trans hrv)) ?_
            refine ialdN (f := w25.2 17) (n := 24) (k := rv) hx hb hK hP 9 rfl rfl (by omega) dX5_takeOthers_37 ?_
            refine topE (show _ = to from by show ((w25.2 17)) rv = to; rw [hR25.2 17 (by decide)]; show (w.2 17) rv = to; rw [eO]; exact hto) ?_
            refine lv_aload_n hx hb dX5_takeOthers_38 rfl (lv_at hl 1 rfl) ?_
            refine va_get (D := gD G) (ci := 5) (v := .ref (h 18)) (C := RX5) (T := TX5) (N := 38) hx hb hts hiX5 hown hK hP 0 rfl rfl 18 (by decide) k41 (fun _ h9 => h9) rfl dX5_takeOthers_39 ?_
            refine lv_aload_n hx hb dX5_takeOthers_42 rfl (lv_at hl 1 rfl) ?_
            refine va_get (D := gD G) (ci := 5) (v := .int (w25.1 15)) (C := RX5) (T := TX5) (N := 38) hx hb hts hiX5 hown hK hP 0 rfl rfl 15 (by decide) k129 (fun _ h9 => h9) rfl dX5_takeOthers_43 ?_
            refine topE ((hR25.1 15 (by decide)).trans ((hR.1 15 (by decide)).trans hrv)) ?_
            refine ialdN (f := w25.2 18) (n := 24) (k := rv) hx hb hK hP 10 rfl rfl (by omega) dX5_takeOthers_46 ?_
            refine topE (show _ = x from by show ((w25.2 18)) rv = x; rw [hR25.2 18 (by decide)]; show (w.2 18) rv = x; rw [eK]; exact pk_us) ?_
            refine lv_ior hx hb dX5_takeOthers_47 ?_
            refine lv_istore (lv' := [(4, .int (to ||| x)), (3, .int (nI 1)), (0, .ref (h 0)), (1, .int sg), (2, .ref (h 18))]) hx hb dX5_takeOthers_48 hl (by decide) rfl (fun ls hl => ?_)
            refine lv_iload_n hx hb dX5_takeOthers_50 rfl (lv_at hl 1 rfl) ?_
            refine lv_if_ne (tgt := 78) hx hb dX5_takeOthers_51 (by decide) (fun _ => ?_) (fun c9 => absurd c9 (by decide))
            refine lv_iload_n hx hb dX5_takeOthers_78 rfl (lv_at hl 1 rfl) ?_
            refine lv_istore_n (lv' := [(3, .int (nI 1)), (4, .int (to ||| x)), (0, .ref (h 0)), (1, .int sg), (2, .ref (h 18))]) hx hb dX5_takeOthers_79 rfl hl (by decide) rfl (fun ls hl => ?_)
            refine lv_aload_n hx hb dX5_takeOthers_80 rfl (lv_at hl 4 rfl) ?_
            refine lv_aload_n hx hb dX5_takeOthers_81 rfl (lv_at hl 2 rfl) ?_
            refine va_get (D := gD G) (ci := 5) (v := .int (w25.1 15)) (C := RX5) (T := TX5) (N := 38) hx hb hts hiX5 hown hK hP 0 rfl rfl 15 (by decide) k129 (fun _ h9 => h9) rfl dX5_takeOthers_82 ?_
            refine topE ((hR25.1 15 (by decide)).trans ((hR.1 15 (by decide)).trans hrv)) ?_
            refine lv_dup2_11 hx hb dX5_takeOthers_85 rfl rfl ?_
            refine ialdN (f := w25.2 18) (n := 24) (k := rv) hx hb hK hP 10 rfl rfl (by omega) dX5_takeOthers_86 ?_
            refine topE (show _ = x from by show ((w25.2 18)) rv = x; rw [hR25.2 18 (by decide)]; show (w.2 18) rv = x; rw [eK]; exact pk_us) ?_
            refine lv_iload_n hx hb dX5_takeOthers_87 rfl (lv_at hl 0 rfl) ?_
            refine lv_if_ne (tgt := 100) hx hb dX5_takeOthers_88 (by decide) (fun _ => ?_) (fun c9 => absurd c9 (by decide))
            refine lv_iconst (v := (0 : Int32)) hx hb dX5_takeOthers_100 (by decide) ?_
            refine lv_ior hx hb dX5_takeOthers_101 ?_
            refine iastN (f := w25.2 18) (n := 24) (k := rv) hx hb hK hP hD hS 10 rfl rfl (by omega) dX5_takeOthers_102 (fun H locs hP hD hS => ?_)
            have hP : PP G (mw G h (oA w25 18 (upd (w25.2 18) rv (x ||| (0 : Int32)))) lt sj) H := hP
            have hD : va_D A (mw G h (oA w25 18 (upd (w25.2 18) rv (x ||| (0 : Int32)))) lt sj) := hD
            refine lv_goto (tgt := 2) hx hb dX5_takeOthers_103 (by decide) ?_
            exact ih2 1 (oA w25 18 (upd (w25.2 18) rv (x ||| (0 : Int32)))) (nE tx nt ((sk tx nt b) + 1)) x (by repeat (first | exact rel.refl _ | exact rel.mono (by assumption) (by decide) (by decide) | refine rel.I (by decide) ?_ | refine rel.A (by decide) ?_ | refine rel.trans ?_ (rel.mono (by assumption) (by decide) (by decide)))) (hb25) (by first | assumption | omega) (by first | assumption | omega) (by first | assumption | omega) (htx25) (fun q => absurd q (by decide)) (fun _ => ⟨sk tx nt (sk tx nt b + 1), nE tx nt (sk tx nt b + 1), x, hO.symm.trans ((oth_f c11 (by rw [hf25]; decide) (by omega)).trans (by rw [hf25])), e1125⟩) (by omega) _ _ ls hP hD hS (lv_sub hl [2, 3, 4, 0] rfl)
          · skip
            have hP : PP G (mw G h w25 lt sj) H := hP
            have hD : va_D A (mw G h w25 lt sj) := hD
            have htx25 : w25.2 9 = tx := (hR25.2 9 (by decide)).trans (htx_w)
            have hEg25 : ((sk tx nt b) + 1) ≤ nE tx nt ((sk tx nt b) + 1) := nE_ge _ _ _
            have hEl25 : nE tx nt ((sk tx nt b) + 1) ≤ nt := nE_le (by omega)
            refine lv_istore_n (lv' := [(3, .int (nI 2)), (0, .ref (h 0)), (1, .int sg), (2, .ref (h 18))]) hx hb dX5_takeOthers_28 rfl hl (by decide) rfl (fun ls hl => ?_)
            refine lv_aload_n hx hb dX5_takeOthers_29 rfl (lv_at hl 1 rfl) ?_
            refine va_get (D := gD G) (ci := 5) (v := .ref (h 17)) (C := RX5) (T := TX5) (N := 38) hx hb hts hiX5 hown hK hP 0 rfl rfl 17 (by decide) k38 (fun _ h9 => h9) rfl dX5_takeOthers_30 ?_
            refine lv_aload_n hx hb dX5_takeOthers_33 rfl (lv_at hl 1 rfl) ?_
            refine va_get (D := gD G) (ci := 5) (v := .int (w25.1 15)) (C := RX5) (T := TX5) (N := 38) hx hb hts hiX5 hown hK hP 0 rfl rfl 15 (by decide) k129 (fun _ h9 => h9) rfl dX5_takeOthers_34 ?_
            refine topE ((hR25.1 15 (by decide)).trans ((hR.1 15 (by decide)).trans hrv)) ?_
            refine ialdN (f := w25.2 17) (n := 24) (k := rv) hx hb hK hP 9 rfl rfl (by omega) dX5_takeOthers_37 ?_
            refine topE (show _ = to from by show ((w25.2 17)) rv = to; rw [hR25.2 17 (by decide)]; show (w.2 17) rv = to; rw [eO]; exact hto) ?_
            refine lv_aload_n hx hb dX5_takeOthers_38 rfl (lv_at hl 1 rfl) ?_
            refine va_get (D := gD G) (ci := 5) (v := .ref (h 18)) (C := RX5) (T := TX5) (N := 38) hx hb hts hiX5 hown hK hP 0 rfl rfl 18 (by decide) k41 (fun _ h9 => h9) rfl dX5_takeOthers_39 ?_
            refine lv_aload_n hx hb dX5_takeOthers_42 rfl (lv_at hl 1 rfl) ?_
            refine va_get (D := gD G) (ci := 5) (v := .int (w25.1 15)) (C := RX5) (T := TX5) (N := 38) hx hb hts hiX5 hown hK hP 0 rfl rfl 15 (by decide) k129 (fun _ h9 => h9) rfl dX5_takeOthers_43 ?_
            refine topE ((hR25.1 15 (by decide)).trans ((hR.1 15 (by decide)).trans hrv)) ?_
            refine ialdN (f := w25.2 18) (n := 24) (k := rv) hx hb hK hP 10 rfl rfl (by omega) dX5_takeOthers_46 ?_
            refine topE (show _ = x from by show ((w25.2 18)) rv = x; rw [hR25.2 18 (by decide)]; show (w.2 18) rv = x; rw [eK]; exact pk_us) ?_
            refine lv_ior hx hb dX5_takeOthers_47 ?_
            refine lv_istore (lv' := [(4, .int (to ||| x)), (3, .int (nI 2)), (0, .ref (h 0)), (1, .int sg), (2, .ref (h 18))]) hx hb dX5_takeOthers_48 hl (by decide) rfl (fun ls hl => ?_)
            refine lv_iload_n hx hb dX5_takeOthers_50 rfl (lv_at hl 1 rfl) ?_
            refine lv_if_ne (tgt := 78) hx hb dX5_takeOthers_51 (by decide) (fun _ => ?_) (fun c9 => absurd c9 (by decide))
            refine lv_iload_n hx hb dX5_takeOthers_78 rfl (lv_at hl 1 rfl) ?_
            refine lv_istore_n (lv' := [(3, .int (nI 2)), (4, .int (to ||| x)), (0, .ref (h 0)), (1, .int sg), (2, .ref (h 18))]) hx hb dX5_takeOthers_79 rfl hl (by decide) rfl (fun ls hl => ?_)
            refine lv_aload_n hx hb dX5_takeOthers_80 rfl (lv_at hl 4 rfl) ?_
            refine lv_aload_n hx hb dX5_takeOthers_81 rfl (lv_at hl 2 rfl) ?_
            refine va_get (D := gD G) (ci := 5) (v := .int (w25.1 15)) (C := RX5) (T := TX5) (N := 38) hx hb hts hiX5 hown hK hP 0 rfl rfl 15 (by decide) k129 (fun _ h9 => h9) rfl dX5_takeOthers_82 ?_
            refine topE ((hR25.1 15 (by decide)).trans ((hR.1 15 (by decide)).trans hrv)) ?_
            refine lv_dup2_11 hx hb dX5_takeOthers_85 rfl rfl ?_
            refine ialdN (f := w25.2 18) (n := 24) (k := rv) hx hb hK hP 10 rfl rfl (by omega) dX5_takeOthers_86 ?_
            refine topE (show _ = x from by show ((w25.2 18)) rv = x; rw [hR25.2 18 (by decide)]; show (w.2 18) rv = x; rw [eK]; exact pk_us) ?_
            refine lv_iload_n hx hb dX5_takeOthers_87 rfl (lv_at hl 0 rfl) ?_
            refine lv_if_ne (tgt := 100) hx hb dX5_takeOthers_88 (by decide) (fun _ => ?_) (fun c9 => absurd c9 (by decide))
            refine lv_iconst (v := (0 : Int32)) hx hb dX5_takeOthers_100 (by decide) ?_
            refine lv_ior hx hb dX5_takeOthers_101 ?_
            refine iastN (f := w25.2 18) (n := 24) (k := rv) hx hb hK hP hD hS 10 rfl rfl (by omega) dX5_takeOthers_102 (fun H locs hP hD hS => ?_)
            have hP : PP G (mw G h (oA w25 18 (upd (w25.2 18) rv (x ||| (0 : Int32)))) lt sj) H := hP
            have hD : va_D A (mw G h (oA w25 18 (upd (w25.2 18) rv (x ||| (0 : Int32)))) lt sj) := hD
            refine lv_goto (tgt := 2) hx hb dX5_takeOthers_103 (by decide) ?_
            exact ih2 2 (oA w25 18 (upd (w25.2 18) rv (x ||| (0 : Int32)))) (nE tx nt ((sk tx nt b) + 1)) x (by repeat (first | exact rel.refl _ | exact rel.mono (by assumption) (by decide) (by decide) | refine rel.I (by decide) ?_ | refine rel.A (by decide) ?_ | refine rel.trans ?_ (rel.mono (by assumption) (by decide) (by decide)))) (hb25) (by first | assumption | omega) (by first | assumption | omega) (by first | assumption | omega) (htx25) (fun q => absurd q (by decide)) (fun _ => ⟨sk tx nt (sk tx nt b + 1), nE tx nt (sk tx nt b + 1), x, hO.symm.trans ((oth_f c11 (by rw [hf25]; decide) (by omega)).trans (by rw [hf25])), e1125⟩) (by omega) _ _ ls hP hD hS (lv_sub hl [2, 3, 4, 0] rfl)
  exact LP2 (nt - a0 + 1) 0 u a0 (nI 0) (by repeat (first | exact rel.refl _ | exact rel.mono (by assumption) (by decide) (by decide) | refine rel.I (by decide) ?_ | refine rel.A (by decide) ?_ | refine rel.trans ?_ (rel.mono (by assumption) (by decide) (by decide)))) (ha0) (by first | assumption | omega) (by first | assumption | omega) (by first | assumption | omega) (htx) (fun _ => ⟨rfl, rfl, (upd_self hx0).symm, rfl⟩) (fun q => absurd rfl q) (Nat.lt_succ_self _) _ _ ls hP hD hS (lv_sub hl [1, 2, 3, 0] rfl)
set_option maxHeartbeats 1000000 in
set_option maxRecDepth 100000 in
theorem mt_X5_takeVersion (l : Launch) (G : gG) (h : Nat → Nat) (sz : Nat) (u : oS) (lt : Int64) (sj : Nat → Int64) (nt : Nat) (tx : Nat → Int32) (pa : pS) (hnt : u.1 10 = nI nt) (q240h : nt ≤ 240) (hs : RSm u nt pa) (htx : u.2 9 = tx) (hAl : pa.1 12 < nt) : Met l yX5_takeVersion wsX5_takeVersion ({ frames := 4, cells := 0, slots := 0, locals := 91 }) (preW G (mw G h u lt sj) sz [.ref (h 0)]) (va_Qi (fun (r : Int32) (v : oS × Int64 × (Nat → Int64)) => (∃ w s2, v = (w, lt, sj) ∧ rdW u w ∧ vST tx nt pa = (0, 0, s2) ∧ RSm w nt s2 ∧ pa.1 12 < s2.1 12 ∧ w.1 11 = u.1 11 ∧ r = nI 0) ∨ (∃ w f p s2, v = (w, lt, sj) ∧ rdW u w ∧ vST tx nt pa = (f, p, s2) ∧ w.1 11 = nI p ∧ 0 < f ∧ f ≤ 4 ∧ r = nI f)) (fun v t => PP G (mw G h v.1 v.2.1 v.2.2) t.heap) (va_A (mw G h u lt sj) sz)) 0 0 (va_A (mw G h u lt sj) sz) := by
  refine Met.ofW (cc := cX5_takeVersion) (maxL := 2) (ret := (some .int)) (by decide) rfl ?_
  intro p e s m args below meth c s₁ B hml hv
  obtain ⟨ha, hsz, hP, hK, hN, hD0⟩ := hv
  subst ha
  have hx := B.exec
  have hb := B.bytes
  have hr := B.returns
  have hts := atoms_spec (ws := wsX5_takeVersion) B.pre
  have hown : s.vm.findClass RX5 = some m.cls := findClass_of_methodNamed B.named
  have hlocks := B.notSynchronized
  subst hsz
  have hD := hD0.self (sz := s.heap.size)
  generalize hAe : va_A (mw G h u lt sj) s.heap.size = A at hD ⊢
  have hA : ∀ q : Nat, s.heap.size ≤ q → A q := fun q h => by rw [← hAe]; exact Or.inr h
  clear hAe hD0
  have hS : va_S A s.heap s.heap [] := va_S.rf
  have hiX5 : ∀ w ∈ wsX50, w ∈ wsX5_takeVersion := fun w h9 => List.mem_cons_of_mem _ (List.mem_append_right _ (h9))
  have k129 := hts (.fieldLink RX5 129 "WovenHistoryModel" "readVersions" "I") (List.mem_of_getElem? (i := 1) rfl)
  have k105 := hts (.fieldLink RX5 105 "WovenHistoryModel" "at0" "I") (List.mem_of_getElem? (i := 2) rfl)
  have k123 := hts (.fieldLink RX5 123 "WovenHistoryModel" "number" "I") (List.mem_of_getElem? (i := 3) rfl)
  have k120 := hts (.fieldLink RX5 120 "WovenHistoryModel" "numberAt" "I") (List.mem_of_getElem? (i := 4) rfl)
  have k35 := hts (.fieldLink RX5 35 "WovenHistoryModel" "readParent" "[I") (List.mem_of_getElem? (i := 5) rfl)
  have k38 := hts (.fieldLink RX5 38 "WovenHistoryModel" "readIncludes" "[I") (List.mem_of_getElem? (i := 6) rfl)
  have k41 := hts (.fieldLink RX5 41 "WovenHistoryModel" "readExcludes" "[I") (List.mem_of_getElem? (i := 7) rfl)
  have hl := lv_entry ([.ref (h 0)]) (n := 2) (Nat.le_of_ble_eq_true rfl)
  rw [lg_entry_eq]
  generalize (lg_sl ([.ref (h 0)]) ++ List.replicate (2 - (lg_sl ([.ref (h 0)])).length) Slot.unset).toArray = ls at hl ⊢
  have hl : lv_has ls 2 [(0, .ref (h 0))] := hl
  obtain ⟨e10, e12, e15, e19, e23, ⟨q240, qa, qv, ql, qd, qpar⟩, hrw⟩ := id hs
  refine lv_aload_n hx hb dX5_takeVersion_0 rfl (lv_at hl 0 rfl) ?_
  refine va_get (D := gD G) (ci := 5) (v := .int (u.1 15)) (C := RX5) (T := TX5) (N := 38) hx hb hts hiX5 hown hK hP 0 rfl rfl 15 (by decide) k129 (fun _ h9 => h9) rfl dX5_takeVersion_1 ?_
  refine topE e15 ?_
  refine lv_bipush (v := nI 24) hx hb dX5_takeVersion_4 (by decide) ?_
  refine lv_icmp_ne (tgt := 19) hx hb dX5_takeVersion_6 (by decide) (fun c6 => ?_) (fun c6 => ?_)
  · skip
    have n6 : ¬ ((pa.1 15) = 24) := fun q9 => c6 ((nI_eq (a := pa.1 15) (b := 24) (by omega) (by omega)).mpr q9)
    refine lv_aload_n hx hb dX5_takeVersion_19 rfl (lv_at hl 0 rfl) ?_
    refine lv_dup hx hb dX5_takeVersion_20 rfl ?_
    refine va_get (D := gD G) (ci := 5) (v := .int (u.1 12)) (C := RX5) (T := TX5) (N := 38) hx hb hts hiX5 hown hK hP 0 rfl rfl 12 (by decide) k105 (fun _ h9 => h9) rfl dX5_takeVersion_21 ?_
    refine topE e12 ?_
    refine lv_iconst (v := nI 1) hx hb dX5_takeVersion_24 (by decide) ?_
    refine lv_iadd hx hb dX5_takeVersion_25 ?_
    refine topE (y := nI ((pa.1 12) + 1)) (nI_add (pa.1 12) 1) ?_
    refine va_put (D := gD G) (ci := 5) (v := .int (nI ((pa.1 12) + 1))) (ty := .int) (C := RX5) (T := TX5) (N := 38) hx hb hts hiX5 tyX5 tyX5_ok nmX5 hown hK hP hD hS 0 rfl rfl 12 (by decide) k105 (fun _ h9 => h9) rfl (tyX5_ok 12 (by decide)) (rfl) (rfl) (Nat.le_of_ble_eq_true rfl) dX5_takeVersion_26 (fun H locs hP hD hS => ?_)
    have hP : PP G (mw G h (oI u 12 (nI ((pa.1 12) + 1))) lt sj) H := hP
    have hD : va_D A (mw G h (oI u 12 (nI ((pa.1 12) + 1))) lt sj) := hD
    refine lv_aload_n hx hb dX5_takeVersion_29 rfl (lv_at hl 0 rfl) ?_
    refine cXi (As := []) (rest := []) (S := oS × Int64 × (Nat → Int64)) (wa := mw G h (oI u 12 (nI ((pa.1 12) + 1))) lt sj) (w1 := fun v => mw G h v.1 v.2.1 v.2.2) ⟨hx, hb, hml, hown, hts⟩ (mt_X5_takeNumber l G h _ (oI u 12 (nI ((pa.1 12) + 1))) lt sj nt ((pa.1 12) + 1) tx (hnt) (rfl) (by first | assumption | omega) (by first | assumption | omega) (htx)) (cwV 0 hts gX5_takeVersion_X5_takeNumber rfl rfl rfl ⟨rfl, hd_X5_takeNumber⟩ ⟨Nat.le_of_ble_eq_true rfl, Nat.le_of_ble_eq_true rfl⟩) hK hN hP hD hS hA (fun _ => rfl) 0 5 rfl rfl rfl hl.1 rfl (Nat.le_of_ble_eq_true rfl) ⟨Nat.zero_le _, Nat.zero_le _⟩ dX5_takeVersion_30 (fun r30 u30 H locs hw30 hP hD hS => ?_)
    rcases hw30 with ⟨w30, rfl, hR30, hb30, en30, e1430, e1130, hf30, rfl⟩ | ⟨w30, rfl, hR30, hb30, e1130, hf30, rfl⟩ | ⟨w30, rfl, hR30, hb30, e1130, hf30, rfl⟩
    · skip
      have hP : PP G (mw G h w30 lt sj) H := hP
      have hD : va_D A (mw G h w30 lt sj) := hD
      have htx30 : w30.2 9 = tx := (hR30.2 9 (by decide)).trans (htx)
      have hEg30 : ((pa.1 12) + 1) ≤ nE tx nt ((pa.1 12) + 1) := nE_ge _ _ _
      have hEl30 : nE tx nt ((pa.1 12) + 1) ≤ nt := nE_le (by omega)
      have hV30 : nV tx nt ((pa.1 12) + 1) ≤ 99 := nV_le hf30
      refine lv_istore_n (lv' := [(1, .int (nI 0)), (0, .ref (h 0))]) hx hb dX5_takeVersion_33 rfl hl (by decide) rfl (fun ls hl => ?_)
      refine lv_iload_n hx hb dX5_takeVersion_34 rfl (lv_at hl 0 rfl) ?_
      refine lv_if_ne (tgt := 68) hx hb dX5_takeVersion_35 (by decide) (fun c9 => absurd (by decide) c9) (fun _ => ?_)
      refine lv_aload_n hx hb dX5_takeVersion_38 rfl (lv_at hl 1 rfl) ?_
      refine va_get (D := gD G) (ci := 5) (v := .int (w30.1 13)) (C := RX5) (T := TX5) (N := 38) hx hb hts hiX5 hown hK hP 0 rfl rfl 13 (by decide) k123 (fun _ h9 => h9) rfl dX5_takeVersion_39 ?_
      refine topE en30 ?_
      refine lv_bipush (v := nI 99) hx hb dX5_takeVersion_42 (by decide) ?_
      refine lv_icmp_eq (tgt := 68) hx hb dX5_takeVersion_44 (by decide) (fun c44 => ?_) (fun c44 => ?_)
      · skip
        have n44 : (nV tx nt ((pa.1 12) + 1)) = 99 := (nI_eq (a := nV tx nt ((pa.1 12) + 1)) (b := 99) (by omega) (by omega)).mp c44
        refine lv_iload_n hx hb dX5_takeVersion_68 rfl (lv_at hl 0 rfl) ?_
        refine lv_if_le (tgt := 74) hx hb dX5_takeVersion_69 (by decide) (fun _ => ?_) (fun c9 => absurd (by decide) c9)
        refine lv_aload_n hx hb dX5_takeVersion_74 rfl (lv_at hl 1 rfl) ?_
        refine va_get (D := gD G) (ci := 5) (v := .ref (h 16)) (C := RX5) (T := TX5) (N := 38) hx hb hts hiX5 hown hK hP 0 rfl rfl 16 (by decide) k35 (fun _ h9 => h9) rfl dX5_takeVersion_75 ?_
        refine lv_aload_n hx hb dX5_takeVersion_78 rfl (lv_at hl 1 rfl) ?_
        refine va_get (D := gD G) (ci := 5) (v := .int (w30.1 15)) (C := RX5) (T := TX5) (N := 38) hx hb hts hiX5 hown hK hP 0 rfl rfl 15 (by decide) k129 (fun _ h9 => h9) rfl dX5_takeVersion_79 ?_
        refine topE ((hR30.1 15 (by decide)).trans (e15)) ?_
        refine lv_aload_n hx hb dX5_takeVersion_82 rfl (lv_at hl 1 rfl) ?_
        refine va_get (D := gD G) (ci := 5) (v := .int (w30.1 13)) (C := RX5) (T := TX5) (N := 38) hx hb hts hiX5 hown hK hP 0 rfl rfl 13 (by decide) k123 (fun _ h9 => h9) rfl dX5_takeVersion_83 ?_
        refine topE en30 ?_
        refine lv_bipush (v := nI 99) hx hb dX5_takeVersion_86 (by decide) ?_
        refine lv_icmp_ne (tgt := 95) hx hb dX5_takeVersion_88 (by decide) (fun c88 => ?_) (fun c88 => ?_)
        · skip
          have n88 : ¬ ((nV tx nt ((pa.1 12) + 1)) = 99) := fun q9 => c88 ((nI_eq (a := nV tx nt ((pa.1 12) + 1)) (b := 99) (by omega) (by omega)).mpr q9)
          omega
        · skip
          have n88 : (nV tx nt ((pa.1 12) + 1)) = 99 := (nI_eq (a := nV tx nt ((pa.1 12) + 1)) (b := 99) (by omega) (by omega)).mp c88
          refine lv_iconst (v := (-1 : Int32)) hx hb dX5_takeVersion_91 (by decide) ?_
          refine lv_goto (tgt := 99) hx hb dX5_takeVersion_92 (by decide) ?_
          refine iastN (f := w30.2 16) (n := 24) (k := pa.1 15) hx hb hK hP hD hS 8 rfl rfl (by omega) dX5_takeVersion_99 (fun H locs hP hD hS => ?_)
          have hP : PP G (mw G h (oA w30 16 (upd (w30.2 16) (pa.1 15) (-1 : Int32))) lt sj) H := hP
          have hD : va_D A (mw G h (oA w30 16 (upd (w30.2 16) (pa.1 15) (-1 : Int32))) lt sj) := hD
          refine lv_aload_n hx hb dX5_takeVersion_100 rfl (lv_at hl 1 rfl) ?_
          refine va_get (D := gD G) (ci := 5) (v := .ref (h 17)) (C := RX5) (T := TX5) (N := 38) hx hb hts hiX5 hown hK hP 0 rfl rfl 17 (by decide) k38 (fun _ h9 => h9) rfl dX5_takeVersion_101 ?_
          refine lv_aload_n hx hb dX5_takeVersion_104 rfl (lv_at hl 1 rfl) ?_
          refine va_get (D := gD G) (ci := 5) (v := .int ((oA w30 16 (upd (w30.2 16) (pa.1 15) (-1 : Int32))).1 15)) (C := RX5) (T := TX5) (N := 38) hx hb hts hiX5 hown hK hP 0 rfl rfl 15 (by decide) k129 (fun _ h9 => h9) rfl dX5_takeVersion_105 ?_
          refine topE ((hR30.1 15 (by decide)).trans (e15)) ?_
          refine lv_iconst (v := nI 0) hx hb dX5_takeVersion_108 (by decide) ?_
          refine iastN (f := (oA w30 16 (upd (w30.2 16) (pa.1 15) (-1 : Int32))).2 17) (n := 24) (k := pa.1 15) hx hb hK hP hD hS 9 rfl rfl (by omega) dX5_takeVersion_109 (fun H locs hP hD hS => ?_)
          have hP : PP G (mw G h (oA (oA w30 16 (upd (w30.2 16) (pa.1 15) (-1 : Int32))) 17 (upd ((oA w30 16 (upd (w30.2 16) (pa.1 15) (-1 : Int32))).2 17) (pa.1 15) (nI 0))) lt sj) H := hP
          have hD : va_D A (mw G h (oA (oA w30 16 (upd (w30.2 16) (pa.1 15) (-1 : Int32))) 17 (upd ((oA w30 16 (upd (w30.2 16) (pa.1 15) (-1 : Int32))).2 17) (pa.1 15) (nI 0))) lt sj) := hD
          refine lv_aload_n hx hb dX5_takeVersion_110 rfl (lv_at hl 1 rfl) ?_
          refine va_get (D := gD G) (ci := 5) (v := .ref (h 18)) (C := RX5) (T := TX5) (N := 38) hx hb hts hiX5 hown hK hP 0 rfl rfl 18 (by decide) k41 (fun _ h9 => h9) rfl dX5_takeVersion_111 ?_
          refine lv_aload_n hx hb dX5_takeVersion_114 rfl (lv_at hl 1 rfl) ?_
          refine va_get (D := gD G) (ci := 5) (v := .int ((oA (oA w30 16 (upd (w30.2 16) (pa.1 15) (-1 : Int32))) 17 (upd ((oA w30 16 (upd (w30.2 16) (pa.1 15) (-1 : Int32))).2 17) (pa.1 15) (nI 0))).1 15)) (C := RX5) (T := TX5) (N := 38) hx hb hts hiX5 hown hK hP 0 rfl rfl 15 (by decide) k129 (fun _ h9 => h9) rfl dX5_takeVersion_115 ?_
          refine topE ((hR30.1 15 (by decide)).trans (e15)) ?_
          refine lv_iconst (v := nI 0) hx hb dX5_takeVersion_118 (by decide) ?_
          refine iastN (f := (oA (oA w30 16 (upd (w30.2 16) (pa.1 15) (-1 : Int32))) 17 (upd ((oA w30 16 (upd (w30.2 16) (pa.1 15) (-1 : Int32))).2 17) (pa.1 15) (nI 0))).2 18) (n := 24) (k := pa.1 15) hx hb hK hP hD hS 10 rfl rfl (by omega) dX5_takeVersion_119 (fun H locs hP hD hS => ?_)
          have hP : PP G (mw G h (oA (oA (oA w30 16 (upd (w30.2 16) (pa.1 15) (-1 : Int32))) 17 (upd ((oA w30 16 (upd (w30.2 16) (pa.1 15) (-1 : Int32))).2 17) (pa.1 15) (nI 0))) 18 (upd ((oA (oA w30 16 (upd (w30.2 16) (pa.1 15) (-1 : Int32))) 17 (upd ((oA w30 16 (upd (w30.2 16) (pa.1 15) (-1 : Int32))).2 17) (pa.1 15) (nI 0))).2 18) (pa.1 15) (nI 0))) lt sj) H := hP
          have hD : va_D A (mw G h (oA (oA (oA w30 16 (upd (w30.2 16) (pa.1 15) (-1 : Int32))) 17 (upd ((oA w30 16 (upd (w30.2 16) (pa.1 15) (-1 : Int32))).2 17) (pa.1 15) (nI 0))) 18 (upd ((oA (oA w30 16 (upd (w30.2 16) (pa.1 15) (-1 : Int32))) 17 (upd ((oA w30 16 (upd (w30.2 16) (pa.1 15) (-1 : Int32))).2 17) (pa.1 15) (nI 0))).2 18) (pa.1 15) (nI 0))) lt sj) := hD
          refine lv_aload_n hx hb dX5_takeVersion_120 rfl (lv_at hl 1 rfl) ?_
          refine lv_bipush (v := nI 43) hx hb dX5_takeVersion_121 (by decide) ?_
          refine lv_aload_n hx hb dX5_takeVersion_123 rfl (lv_at hl 1 rfl) ?_
          refine va_get (D := gD G) (ci := 5) (v := .ref (h 17)) (C := RX5) (T := TX5) (N := 38) hx hb hts hiX5 hown hK hP 0 rfl rfl 17 (by decide) k38 (fun _ h9 => h9) rfl dX5_takeVersion_124 ?_
          refine cXi (As := [.int (nI 43), .ref (h 17)]) (rest := []) (S := oS × Int64 × (Nat → Int64)) (wa := mw G h (oA (oA (oA w30 16 (upd (w30.2 16) (pa.1 15) (-1 : Int32))) 17 (upd ((oA w30 16 (upd (w30.2 16) (pa.1 15) (-1 : Int32))).2 17) (pa.1 15) (nI 0))) 18 (upd ((oA (oA w30 16 (upd (w30.2 16) (pa.1 15) (-1 : Int32))) 17 (upd ((oA w30 16 (upd (w30.2 16) (pa.1 15) (-1 : Int32))).2 17) (pa.1 15) (nI 0))).2 18) (pa.1 15) (nI 0))) lt sj) (w1 := fun v => mw G h v.1 v.2.1 v.2.2) ⟨hx, hb, hml, hown, hts⟩ (mt_X5_takeOthers17 l G h _ (oA (oA (oA w30 16 (upd (w30.2 16) (pa.1 15) (-1 : Int32))) 17 (upd ((oA w30 16 (upd (w30.2 16) (pa.1 15) (-1 : Int32))).2 17) (pa.1 15) (nI 0))) 18 (upd ((oA (oA w30 16 (upd (w30.2 16) (pa.1 15) (-1 : Int32))) 17 (upd ((oA w30 16 (upd (w30.2 16) (pa.1 15) (-1 : Int32))).2 17) (pa.1 15) (nI 0))).2 18) (pa.1 15) (nI 0))) lt sj nt (nE tx nt ((pa.1 12) + 1)) (pa.1 15) tx (nI 43) (nI 0) ((hR30.1 10 (by decide)).trans (hnt)) (hb30) ((hR30.1 15 (by decide)).trans (e15)) (by first | assumption | omega) (by first | assumption | omega) (by first | assumption | omega) (htx30) (by decide) (pk_us) (pk_us)) (cwV 2 hts gX5_takeVersion_X5_takeOthers rfl rfl rfl ⟨rfl, hd_X5_takeOthers⟩ ⟨Nat.le_of_ble_eq_true rfl, Nat.le_of_ble_eq_true rfl⟩) hK hN hP hD hS hA (fun _ => rfl) 0 5 rfl rfl rfl hl.1 rfl (Nat.le_of_ble_eq_true rfl) ⟨Nat.zero_le _, Nat.zero_le _⟩ dX5_takeVersion_127 (fun r127 u127 H locs hw127 hP hD hS => ?_)
          rcases hw127 with ⟨w127, b127, x127, rfl, hR127, hb127, hab127, hbn127, eK127, eO127, hO127, e11127, rfl⟩ | ⟨w127, b127, f127, p127, e127, y127, rfl, hR127, hb127, hab127, hbn127, hO127, e11127, rfl, hf127, hg127⟩
          · skip
            have hP : PP G (mw G h w127 lt sj) H := hP
            have hD : va_D A (mw G h w127 lt sj) := hD
            have htx127 : w127.2 9 = tx := (hR127.2 9 (by decide)).trans (htx30)
            refine lv_istore_n (lv' := [(1, .int (nI 0)), (0, .ref (h 0))]) hx hb dX5_takeVersion_130 rfl hl (by decide) rfl (fun ls hl => ?_)
            refine lv_iload_n hx hb dX5_takeVersion_131 rfl (lv_at hl 0 rfl) ?_
            refine lv_if_le (tgt := 139) hx hb dX5_takeVersion_132 (by decide) (fun _ => ?_) (fun c9 => absurd (by decide) c9)
            refine lv_aload_n hx hb dX5_takeVersion_139 rfl (lv_at hl 1 rfl) ?_
            refine lv_bipush (v := nI 45) hx hb dX5_takeVersion_140 (by decide) ?_
            refine lv_aload_n hx hb dX5_takeVersion_142 rfl (lv_at hl 1 rfl) ?_
            refine va_get (D := gD G) (ci := 5) (v := .ref (h 18)) (C := RX5) (T := TX5) (N := 38) hx hb hts hiX5 hown hK hP 0 rfl rfl 18 (by decide) k41 (fun _ h9 => h9) rfl dX5_takeVersion_143 ?_
            refine cXi (As := [.int (nI 45), .ref (h 18)]) (rest := []) (S := oS × Int64 × (Nat → Int64)) (wa := mw G h w127 lt sj) (w1 := fun v => mw G h v.1 v.2.1 v.2.2) ⟨hx, hb, hml, hown, hts⟩ (mt_X5_takeOthers18 l G h _ w127 lt sj nt b127 (pa.1 15) tx (nI 45) x127 ((hR127.1 10 (by decide)).trans ((hR30.1 10 (by decide)).trans (hnt))) (hb127) ((hR127.1 15 (by decide)).trans ((hR30.1 15 (by decide)).trans (e15))) (by first | assumption | omega) (by first | assumption | omega) (by first | assumption | omega) (htx127) (by decide) ((congrFun eO127 _).trans pk_us) (by rw [eK127]; exact pk_us)) (cwV 2 hts gX5_takeVersion_X5_takeOthers rfl rfl rfl ⟨rfl, hd_X5_takeOthers⟩ ⟨Nat.le_of_ble_eq_true rfl, Nat.le_of_ble_eq_true rfl⟩) hK hN hP hD hS hA (fun _ => rfl) 0 5 rfl rfl rfl hl.1 rfl (Nat.le_of_ble_eq_true rfl) ⟨Nat.zero_le _, Nat.zero_le _⟩ dX5_takeVersion_146 (fun r146 u146 H locs hw146 hP hD hS => ?_)
            rcases hw146 with ⟨w146, b146, x146, rfl, hR146, hb146, hab146, hbn146, eK146, eO146, hO146, e11146, rfl⟩ | ⟨w146, b146, f146, p146, e146, y146, rfl, hR146, hb146, hab146, hbn146, hO146, e11146, rfl, hf146, hg146⟩
            · skip
              have hP : PP G (mw G h w146 lt sj) H := hP
              have hD : va_D A (mw G h w146 lt sj) := hD
              have htx146 : w146.2 9 = tx := (hR146.2 9 (by decide)).trans (htx127)
              refine lv_istore_n (lv' := [(1, .int (nI 0)), (0, .ref (h 0))]) hx hb dX5_takeVersion_149 rfl hl (by decide) rfl (fun ls hl => ?_)
              refine lv_iload_n hx hb dX5_takeVersion_150 rfl (lv_at hl 0 rfl) ?_
              refine lv_if_ne (tgt := 173) hx hb dX5_takeVersion_151 (by decide) (fun c9 => absurd (by decide) c9) (fun _ => ?_)
              refine lv_aload_n hx hb dX5_takeVersion_154 rfl (lv_at hl 1 rfl) ?_
              refine cXi (As := []) (rest := []) (S := oS × Int64 × (Nat → Int64)) (wa := mw G h w146 lt sj) (w1 := fun v => mw G h v.1 v.2.1 v.2.2) ⟨hx, hb, hml, hown, hts⟩ (mt_X5_here l G h _ w146 lt sj nt b146 tx ((hR146.1 10 (by decide)).trans ((hR127.1 10 (by decide)).trans ((hR30.1 10 (by decide)).trans (hnt)))) (hb146) (by first | assumption | omega) (by first | assumption | omega) (htx146)) (cwV 0 hts gX5_takeVersion_X5_here rfl rfl rfl ⟨rfl, hd_X5_here⟩ ⟨Nat.le_of_ble_eq_true rfl, Nat.le_of_ble_eq_true rfl⟩) hK hN hP hD hS hA (fun _ => rfl) 0 5 rfl rfl rfl hl.1 rfl (Nat.le_of_ble_eq_true rfl) ⟨Nat.zero_le _, Nat.zero_le _⟩ dX5_takeVersion_155 (fun r155 u155 H locs hw155 hP hD hS => ?_)
              obtain ⟨rfl, rfl⟩ := hw155
              have hP : PP G (mw G h (oI w146 12 (nI (sk tx nt b146))) lt sj) H := hP
              have hD : va_D A (mw G h (oI w146 12 (nI (sk tx nt b146))) lt sj) := hD
              have hge155 : b146 ≤ sk tx nt b146 := rn_ge _
              have hle155 : sk tx nt b146 ≤ nt := rn_le (by omega)
              refine lv_bipush (v := nI 59) hx hb dX5_takeVersion_158 (by decide) ?_
              refine lv_icmp_eq (tgt := 173) hx hb dX5_takeVersion_160 (by decide) (fun c160 => ?_) (fun c160 => ?_)
              · skip
                have hlt160 := hd_c c160 (by decide)
                refine lv_aload_n hx hb dX5_takeVersion_173 rfl (lv_at hl 1 rfl) ?_
                refine lv_dup hx hb dX5_takeVersion_174 rfl ?_
                refine va_get (D := gD G) (ci := 5) (v := .int (nI (sk tx nt b146))) (C := RX5) (T := TX5) (N := 38) hx hb hts hiX5 hown hK hP 0 rfl rfl 12 (by decide) k105 (fun _ h9 => h9) rfl dX5_takeVersion_175 ?_
                refine lv_iconst (v := nI 1) hx hb dX5_takeVersion_178 (by decide) ?_
                refine lv_iadd hx hb dX5_takeVersion_179 ?_
                refine topE (y := nI ((sk tx nt b146) + 1)) (nI_add (sk tx nt b146) 1) ?_
                refine va_put (D := gD G) (ci := 5) (v := .int (nI ((sk tx nt b146) + 1))) (ty := .int) (C := RX5) (T := TX5) (N := 38) hx hb hts hiX5 tyX5 tyX5_ok nmX5 hown hK hP hD hS 0 rfl rfl 12 (by decide) k105 (fun _ h9 => h9) rfl (tyX5_ok 12 (by decide)) (rfl) (rfl) (Nat.le_of_ble_eq_true rfl) dX5_takeVersion_180 (fun H locs hP hD hS => ?_)
                have hP : PP G (mw G h (oI (oI w146 12 (nI (sk tx nt b146))) 12 (nI ((sk tx nt b146) + 1))) lt sj) H := hP
                have hD : va_D A (mw G h (oI (oI w146 12 (nI (sk tx nt b146))) 12 (nI ((sk tx nt b146) + 1))) lt sj) := hD
                refine lv_aload_n hx hb dX5_takeVersion_183 rfl (lv_at hl 1 rfl) ?_
                refine lv_dup hx hb dX5_takeVersion_184 rfl ?_
                refine va_get (D := gD G) (ci := 5) (v := .int ((oI (oI w146 12 (nI (sk tx nt b146))) 12 (nI ((sk tx nt b146) + 1))).1 15)) (C := RX5) (T := TX5) (N := 38) hx hb hts hiX5 hown hK hP 0 rfl rfl 15 (by decide) k129 (fun _ h9 => h9) rfl dX5_takeVersion_185 ?_
                refine topE ((hR146.1 15 (by decide)).trans ((hR127.1 15 (by decide)).trans ((hR30.1 15 (by decide)).trans (e15)))) ?_
                refine lv_iconst (v := nI 1) hx hb dX5_takeVersion_188 (by decide) ?_
                refine lv_iadd hx hb dX5_takeVersion_189 ?_
                refine topE (y := nI ((pa.1 15) + 1)) (nI_add (pa.1 15) 1) ?_
                refine va_put (D := gD G) (ci := 5) (v := .int (nI ((pa.1 15) + 1))) (ty := .int) (C := RX5) (T := TX5) (N := 38) hx hb hts hiX5 tyX5 tyX5_ok nmX5 hown hK hP hD hS 0 rfl rfl 15 (by decide) k129 (fun _ h9 => h9) rfl (tyX5_ok 15 (by decide)) (rfl) (rfl) (Nat.le_of_ble_eq_true rfl) dX5_takeVersion_190 (fun H locs hP hD hS => ?_)
                have hP : PP G (mw G h (oI (oI (oI w146 12 (nI (sk tx nt b146))) 12 (nI ((sk tx nt b146) + 1))) 15 (nI ((pa.1 15) + 1))) lt sj) H := hP
                have hD : va_D A (mw G h (oI (oI (oI w146 12 (nI (sk tx nt b146))) 12 (nI ((sk tx nt b146) + 1))) 15 (nI ((pa.1 15) + 1))) lt sj) := hD
                refine lv_iload_n hx hb dX5_takeVersion_193 rfl (lv_at hl 0 rfl) ?_
                exact W.iret (v := nI 0) hx hb hr (fun t ht hW => ⟨⟨nI 0, (oI (oI (oI w146 12 (nI (sk tx nt b146))) 12 (nI ((sk tx nt b146) + 1))) 15 (nI ((pa.1 15) + 1)), lt, sj), rfl, by
                                        have HQ : vST tx nt pa = (0, 0, vOK tx nt pa (nV tx nt (pa.1 12 + 1)) b146 x127 x146) := (vST_a n6 hf30 (by omega)).trans (by rw [hO127, vSb_0, hO146, vSc_0 c160])
                                        exact Or.inl ⟨_, vOK tx nt pa (nV tx nt (pa.1 12 + 1)) b146 x127 x146, rfl, by repeat (first | exact rel.refl _ | exact rel.mono (by assumption) (by decide) (by decide) | refine rel.I (by decide) ?_ | refine rel.A (by decide) ?_ | refine rel.trans ?_ (rel.mono (by assumption) (by decide) (by decide))), HQ, ⟨(hR146.1 10 (by decide)).trans ((hR127.1 10 (by decide)).trans ((hR30.1 10 (by decide)).trans (hnt))), rfl, rfl, (hR146.1 19 (by decide)).trans ((hR127.1 19 (by decide)).trans ((hR30.1 19 (by decide)).trans (e19))), (hR146.1 23 (by decide)).trans ((hR127.1 23 (by decide)).trans ((hR30.1 23 (by decide)).trans (e23))), ⟨q240, (show (sk tx nt b146) + 1 ≤ nt by omega), (show (pa.1 15) + 1 ≤ 24 by omega), (show pa.1 19 ≤ 120 by omega), (show pa.1 23 ≤ (sk tx nt b146) + 1 by omega), (by show parOK (upd (pa.2 16) (pa.1 15) (if (nV tx nt (pa.1 12 + 1)) = 99 then -1 else nI (nV tx nt (pa.1 12 + 1)))) (pa.1 15 + 1); rw [← (show (-1) = if (nV tx nt (pa.1 12 + 1)) = 99 then -1 else nI (nV tx nt (pa.1 12 + 1)) from (if_pos n44).symm)]; exact parOK_upd qpar (Or.inl rfl))⟩, RwM_v (q := (-1)) hrw ((if_pos n44).symm) (by show w146.2 16 = _; rw [hR146.2 16 (by decide)]; show w127.2 16 = _; rw [hR127.2 16 (by decide)]; show upd (w30.2 16) _ _ = _; rw [hR30.2 16 (by decide)]; rfl) (by show w146.2 17 = _; rw [eO146]; show w127.2 17 = _; rw [eK127]; show upd (upd (w30.2 17) _ _) _ _ = _; rw [upd_upd, hR30.2 17 (by decide)]; rfl) (by show w146.2 18 = _; rw [eK146]; show upd (w127.2 18) _ _ = _; rw [eO127]; show upd (upd (w30.2 18) _ _) _ _ = _; rw [upd_upd, hR30.2 18 (by decide)]; rfl) ((hR146.2 20 (by decide)).trans ((hR127.2 20 (by decide)).trans (hR30.2 20 (by decide)))) ((hR146.2 21 (by decide)).trans ((hR127.2 21 (by decide)).trans (hR30.2 21 (by decide)))) ((hR146.2 22 (by decide)).trans ((hR127.2 22 (by decide)).trans (hR30.2 22 (by decide)))) ((hR146.2 24 (by decide)).trans ((hR127.2 24 (by decide)).trans (hR30.2 24 (by decide)))) ((hR146.2 25 (by decide)).trans ((hR127.2 25 (by decide)).trans (hR30.2 25 (by decide))))⟩, (show pa.1 12 < (sk tx nt b146) + 1 by omega), e11146.trans (e11127.trans e1130), rfl⟩, show PP G (mw G h (oI (oI (oI w146 12 (nI (sk tx nt b146))) 12 (nI ((sk tx nt b146) + 1))) 15 (nI ((pa.1 15) + 1))) lt sj) t.heap by rw [ht]; exact hP⟩, hS.F ht⟩) hS.2.2 dX5_takeVersion_194
              · skip
                refine lv_aload_n hx hb dX5_takeVersion_163 rfl (lv_at hl 1 rfl) ?_
                refine lv_iconst (v := nI 1) hx hb dX5_takeVersion_164 (by decide) ?_
                refine lv_aload_n hx hb dX5_takeVersion_165 rfl (lv_at hl 1 rfl) ?_
                refine va_get (D := gD G) (ci := 5) (v := .int (nI (sk tx nt b146))) (C := RX5) (T := TX5) (N := 38) hx hb hts hiX5 hown hK hP 0 rfl rfl 12 (by decide) k105 (fun _ h9 => h9) rfl dX5_takeVersion_166 ?_
                refine cXi (As := [.int (nI 1), .int (nI (sk tx nt b146))]) (rest := []) (S := oS × Int64 × (Nat → Int64)) (wa := mw G h (oI w146 12 (nI (sk tx nt b146))) lt sj) (w1 := fun v => mw G h v.1 v.2.1 v.2.2) ⟨hx, hb, hml, hown, hts⟩ (mt_X5_fails l G h _ (oI w146 12 (nI (sk tx nt b146))) lt sj (nI 1) (nI (sk tx nt b146))) (cwV 2 hts gX5_takeVersion_X5_fails rfl rfl rfl ⟨rfl, hd_X5_fails⟩ ⟨Nat.le_of_ble_eq_true rfl, Nat.le_of_ble_eq_true rfl⟩) hK hN hP hD hS hA (fun _ => rfl) 0 5 rfl rfl rfl hl.1 rfl (Nat.le_of_ble_eq_true rfl) ⟨Nat.zero_le _, Nat.zero_le _⟩ dX5_takeVersion_169 (fun r169 u169 H locs hw169 hP hD hS => ?_)
                obtain ⟨rfl, rfl⟩ := hw169
                have hP : PP G (mw G h (oI (oI w146 12 (nI (sk tx nt b146))) 11 (nI (sk tx nt b146))) lt sj) H := hP
                have hD : va_D A (mw G h (oI (oI w146 12 (nI (sk tx nt b146))) 11 (nI (sk tx nt b146))) lt sj) := hD
                exact W.iret (v := nI 1) hx hb hr (fun t ht hW => ⟨⟨nI 1, (oI (oI w146 12 (nI (sk tx nt b146))) 11 (nI (sk tx nt b146)), lt, sj), rfl, Or.inr ⟨_, 1, (sk tx nt b146), pa, rfl, by repeat (first | exact rel.refl _ | exact rel.mono (by assumption) (by decide) (by decide) | refine rel.I (by decide) ?_ | refine rel.A (by decide) ?_ | refine rel.trans ?_ (rel.mono (by assumption) (by decide) (by decide))), (vST_a n6 hf30 (by omega)).trans (by rw [hO127, vSb_0, hO146, vSc_1 c160]), rfl, by omega, by omega, rfl⟩, show PP G (mw G h (oI (oI w146 12 (nI (sk tx nt b146))) 11 (nI (sk tx nt b146))) lt sj) t.heap by rw [ht]; exact hP⟩, hS.F ht⟩) hS.2.2 dX5_takeVersion_172
            · skip
              have hP : PP G (mw G h w146 lt sj) H := hP
              have hD : va_D A (mw G h w146 lt sj) := hD
              have htx146 : w146.2 9 = tx := (hR146.2 9 (by decide)).trans (htx127)
              refine lv_istore_n (lv' := [(1, .int (nI (f146))), (0, .ref (h 0))]) hx hb dX5_takeVersion_149 rfl hl (by decide) rfl (fun ls hl => ?_)
              refine lv_iload_n hx hb dX5_takeVersion_150 rfl (lv_at hl 0 rfl) ?_
              refine lv_if_ne (tgt := 173) hx hb dX5_takeVersion_151 (by decide) (fun c151 => ?_) (fun c151 => ?_)
              · skip
                have n151 : ¬ (f146 = 0) := fun q9 => c151 ((nI_eq (a := f146) (b := 0) (by omega) (by omega)).mpr q9)
                refine lv_aload_n hx hb dX5_takeVersion_173 rfl (lv_at hl 1 rfl) ?_
                refine lv_dup hx hb dX5_takeVersion_174 rfl ?_
                refine va_get (D := gD G) (ci := 5) (v := .int (w146.1 12)) (C := RX5) (T := TX5) (N := 38) hx hb hts hiX5 hown hK hP 0 rfl rfl 12 (by decide) k105 (fun _ h9 => h9) rfl dX5_takeVersion_175 ?_
                refine topE hb146 ?_
                refine lv_iconst (v := nI 1) hx hb dX5_takeVersion_178 (by decide) ?_
                refine lv_iadd hx hb dX5_takeVersion_179 ?_
                refine topE (y := nI (b146 + 1)) (nI_add b146 1) ?_
                refine va_put (D := gD G) (ci := 5) (v := .int (nI (b146 + 1))) (ty := .int) (C := RX5) (T := TX5) (N := 38) hx hb hts hiX5 tyX5 tyX5_ok nmX5 hown hK hP hD hS 0 rfl rfl 12 (by decide) k105 (fun _ h9 => h9) rfl (tyX5_ok 12 (by decide)) (rfl) (rfl) (Nat.le_of_ble_eq_true rfl) dX5_takeVersion_180 (fun H locs hP hD hS => ?_)
                have hP : PP G (mw G h (oI w146 12 (nI (b146 + 1))) lt sj) H := hP
                have hD : va_D A (mw G h (oI w146 12 (nI (b146 + 1))) lt sj) := hD
                refine lv_aload_n hx hb dX5_takeVersion_183 rfl (lv_at hl 1 rfl) ?_
                refine lv_dup hx hb dX5_takeVersion_184 rfl ?_
                refine va_get (D := gD G) (ci := 5) (v := .int ((oI w146 12 (nI (b146 + 1))).1 15)) (C := RX5) (T := TX5) (N := 38) hx hb hts hiX5 hown hK hP 0 rfl rfl 15 (by decide) k129 (fun _ h9 => h9) rfl dX5_takeVersion_185 ?_
                refine topE ((hR146.1 15 (by decide)).trans ((hR127.1 15 (by decide)).trans ((hR30.1 15 (by decide)).trans (e15)))) ?_
                refine lv_iconst (v := nI 1) hx hb dX5_takeVersion_188 (by decide) ?_
                refine lv_iadd hx hb dX5_takeVersion_189 ?_
                refine topE (y := nI ((pa.1 15) + 1)) (nI_add (pa.1 15) 1) ?_
                refine va_put (D := gD G) (ci := 5) (v := .int (nI ((pa.1 15) + 1))) (ty := .int) (C := RX5) (T := TX5) (N := 38) hx hb hts hiX5 tyX5 tyX5_ok nmX5 hown hK hP hD hS 0 rfl rfl 15 (by decide) k129 (fun _ h9 => h9) rfl (tyX5_ok 15 (by decide)) (rfl) (rfl) (Nat.le_of_ble_eq_true rfl) dX5_takeVersion_190 (fun H locs hP hD hS => ?_)
                have hP : PP G (mw G h (oI (oI w146 12 (nI (b146 + 1))) 15 (nI ((pa.1 15) + 1))) lt sj) H := hP
                have hD : va_D A (mw G h (oI (oI w146 12 (nI (b146 + 1))) 15 (nI ((pa.1 15) + 1))) lt sj) := hD
                refine lv_iload_n hx hb dX5_takeVersion_193 rfl (lv_at hl 0 rfl) ?_
                exact W.iret (v := nI (f146)) hx hb hr (fun t ht hW => ⟨⟨nI (f146), (oI (oI w146 12 (nI (b146 + 1))) 15 (nI ((pa.1 15) + 1)), lt, sj), rfl, Or.inr ⟨_, f146, p146, pa, rfl, by repeat (first | exact rel.refl _ | exact rel.mono (by assumption) (by decide) (by decide) | refine rel.I (by decide) ?_ | refine rel.A (by decide) ?_ | refine rel.trans ?_ (rel.mono (by assumption) (by decide) (by decide))), (vST_a n6 hf30 (by omega)).trans (by rw [hO127, vSb_0, hO146, vSc_f (by omega)]), e11146, by omega, by omega, rfl⟩, show PP G (mw G h (oI (oI w146 12 (nI (b146 + 1))) 15 (nI ((pa.1 15) + 1))) lt sj) t.heap by rw [ht]; exact hP⟩, hS.F ht⟩) hS.2.2 dX5_takeVersion_194
              · skip
                have n151 : f146 = 0 := (nI_eq (a := f146) (b := 0) (by omega) (by omega)).mp c151
                omega
          · skip
            have hP : PP G (mw G h w127 lt sj) H := hP
            have hD : va_D A (mw G h w127 lt sj) := hD
            have htx127 : w127.2 9 = tx := (hR127.2 9 (by decide)).trans (htx30)
            refine lv_istore_n (lv' := [(1, .int (nI (f127))), (0, .ref (h 0))]) hx hb dX5_takeVersion_130 rfl hl (by decide) rfl (fun ls hl => ?_)
            refine lv_iload_n hx hb dX5_takeVersion_131 rfl (lv_at hl 0 rfl) ?_
            refine lv_if_le (tgt := 139) hx hb dX5_takeVersion_132 (by decide) (fun c132 => ?_) (fun c132 => ?_)
            · skip
              have n132 : f127 ≤ 0 := (nI_leI (a := f127) (b := 0) (by omega) (by omega)).mp c132
              omega
            · skip
              have n132 : ¬ (f127 ≤ 0) := fun q9 => c132 ((nI_leI (a := f127) (b := 0) (by omega) (by omega)).mpr q9)
              refine lv_iload_n hx hb dX5_takeVersion_135 rfl (lv_at hl 0 rfl) ?_
              refine lv_goto (tgt := 149) hx hb dX5_takeVersion_136 (by decide) ?_
              refine lv_istore_n (lv' := [(1, .int (nI (f127))), (0, .ref (h 0))]) hx hb dX5_takeVersion_149 rfl hl (by decide) rfl (fun ls hl => ?_)
              refine lv_iload_n hx hb dX5_takeVersion_150 rfl (lv_at hl 0 rfl) ?_
              refine lv_if_ne (tgt := 173) hx hb dX5_takeVersion_151 (by decide) (fun c151 => ?_) (fun c151 => ?_)
              · skip
                have n151 : ¬ (f127 = 0) := fun q9 => c151 ((nI_eq (a := f127) (b := 0) (by omega) (by omega)).mpr q9)
                refine lv_aload_n hx hb dX5_takeVersion_173 rfl (lv_at hl 1 rfl) ?_
                refine lv_dup hx hb dX5_takeVersion_174 rfl ?_
                refine va_get (D := gD G) (ci := 5) (v := .int (w127.1 12)) (C := RX5) (T := TX5) (N := 38) hx hb hts hiX5 hown hK hP 0 rfl rfl 12 (by decide) k105 (fun _ h9 => h9) rfl dX5_takeVersion_175 ?_
                refine topE hb127 ?_
                refine lv_iconst (v := nI 1) hx hb dX5_takeVersion_178 (by decide) ?_
                refine lv_iadd hx hb dX5_takeVersion_179 ?_
                refine topE (y := nI (b127 + 1)) (nI_add b127 1) ?_
                refine va_put (D := gD G) (ci := 5) (v := .int (nI (b127 + 1))) (ty := .int) (C := RX5) (T := TX5) (N := 38) hx hb hts hiX5 tyX5 tyX5_ok nmX5 hown hK hP hD hS 0 rfl rfl 12 (by decide) k105 (fun _ h9 => h9) rfl (tyX5_ok 12 (by decide)) (rfl) (rfl) (Nat.le_of_ble_eq_true rfl) dX5_takeVersion_180 (fun H locs hP hD hS => ?_)
                have hP : PP G (mw G h (oI w127 12 (nI (b127 + 1))) lt sj) H := hP
                have hD : va_D A (mw G h (oI w127 12 (nI (b127 + 1))) lt sj) := hD
                refine lv_aload_n hx hb dX5_takeVersion_183 rfl (lv_at hl 1 rfl) ?_
                refine lv_dup hx hb dX5_takeVersion_184 rfl ?_
                refine va_get (D := gD G) (ci := 5) (v := .int ((oI w127 12 (nI (b127 + 1))).1 15)) (C := RX5) (T := TX5) (N := 38) hx hb hts hiX5 hown hK hP 0 rfl rfl 15 (by decide) k129 (fun _ h9 => h9) rfl dX5_takeVersion_185 ?_
                refine topE ((hR127.1 15 (by decide)).trans ((hR30.1 15 (by decide)).trans (e15))) ?_
                refine lv_iconst (v := nI 1) hx hb dX5_takeVersion_188 (by decide) ?_
                refine lv_iadd hx hb dX5_takeVersion_189 ?_
                refine topE (y := nI ((pa.1 15) + 1)) (nI_add (pa.1 15) 1) ?_
                refine va_put (D := gD G) (ci := 5) (v := .int (nI ((pa.1 15) + 1))) (ty := .int) (C := RX5) (T := TX5) (N := 38) hx hb hts hiX5 tyX5 tyX5_ok nmX5 hown hK hP hD hS 0 rfl rfl 15 (by decide) k129 (fun _ h9 => h9) rfl (tyX5_ok 15 (by decide)) (rfl) (rfl) (Nat.le_of_ble_eq_true rfl) dX5_takeVersion_190 (fun H locs hP hD hS => ?_)
                have hP : PP G (mw G h (oI (oI w127 12 (nI (b127 + 1))) 15 (nI ((pa.1 15) + 1))) lt sj) H := hP
                have hD : va_D A (mw G h (oI (oI w127 12 (nI (b127 + 1))) 15 (nI ((pa.1 15) + 1))) lt sj) := hD
                refine lv_iload_n hx hb dX5_takeVersion_193 rfl (lv_at hl 0 rfl) ?_
                exact W.iret (v := nI (f127)) hx hb hr (fun t ht hW => ⟨⟨nI (f127), (oI (oI w127 12 (nI (b127 + 1))) 15 (nI ((pa.1 15) + 1)), lt, sj), rfl, Or.inr ⟨_, f127, p127, pa, rfl, by repeat (first | exact rel.refl _ | exact rel.mono (by assumption) (by decide) (by decide) | refine rel.I (by decide) ?_ | refine rel.A (by decide) ?_ | refine rel.trans ?_ (rel.mono (by assumption) (by decide) (by decide))), (vST_a n6 hf30 (by omega)).trans (by rw [hO127, vSb_f (by omega)]), e11127, by omega, by omega, rfl⟩, show PP G (mw G h (oI (oI w127 12 (nI (b127 + 1))) 15 (nI ((pa.1 15) + 1))) lt sj) t.heap by rw [ht]; exact hP⟩, hS.F ht⟩) hS.2.2 dX5_takeVersion_194
              · skip
                have n151 : f127 = 0 := (nI_eq (a := f127) (b := 0) (by omega) (by omega)).mp c151
                omega
      · skip
        have n44 : ¬ ((nV tx nt ((pa.1 12) + 1)) = 99) := fun q9 => c44 ((nI_eq (a := nV tx nt ((pa.1 12) + 1)) (b := 99) (by omega) (by omega)).mpr q9)
        refine lv_aload_n hx hb dX5_takeVersion_47 rfl (lv_at hl 1 rfl) ?_
        refine va_get (D := gD G) (ci := 5) (v := .int (w30.1 13)) (C := RX5) (T := TX5) (N := 38) hx hb hts hiX5 hown hK hP 0 rfl rfl 13 (by decide) k123 (fun _ h9 => h9) rfl dX5_takeVersion_48 ?_
        refine topE en30 ?_
        refine lv_aload_n hx hb dX5_takeVersion_51 rfl (lv_at hl 1 rfl) ?_
        refine va_get (D := gD G) (ci := 5) (v := .int (w30.1 15)) (C := RX5) (T := TX5) (N := 38) hx hb hts hiX5 hown hK hP 0 rfl rfl 15 (by decide) k129 (fun _ h9 => h9) rfl dX5_takeVersion_52 ?_
        refine topE ((hR30.1 15 (by decide)).trans (e15)) ?_
        refine lv_icmp_lt (tgt := 68) hx hb dX5_takeVersion_55 (by decide) (fun c55 => ?_) (fun c55 => ?_)
        · skip
          have n55 : (nV tx nt ((pa.1 12) + 1)) < (pa.1 15) := (nI_ltI (a := nV tx nt ((pa.1 12) + 1)) (b := pa.1 15) (by omega) (by omega)).mp c55
          refine lv_iload_n hx hb dX5_takeVersion_68 rfl (lv_at hl 0 rfl) ?_
          refine lv_if_le (tgt := 74) hx hb dX5_takeVersion_69 (by decide) (fun _ => ?_) (fun c9 => absurd (by decide) c9)
          refine lv_aload_n hx hb dX5_takeVersion_74 rfl (lv_at hl 1 rfl) ?_
          refine va_get (D := gD G) (ci := 5) (v := .ref (h 16)) (C := RX5) (T := TX5) (N := 38) hx hb hts hiX5 hown hK hP 0 rfl rfl 16 (by decide) k35 (fun _ h9 => h9) rfl dX5_takeVersion_75 ?_
          refine lv_aload_n hx hb dX5_takeVersion_78 rfl (lv_at hl 1 rfl) ?_
          refine va_get (D := gD G) (ci := 5) (v := .int (w30.1 15)) (C := RX5) (T := TX5) (N := 38) hx hb hts hiX5 hown hK hP 0 rfl rfl 15 (by decide) k129 (fun _ h9 => h9) rfl dX5_takeVersion_79 ?_
          refine topE ((hR30.1 15 (by decide)).trans (e15)) ?_
          refine lv_aload_n hx hb dX5_takeVersion_82 rfl (lv_at hl 1 rfl) ?_
          refine va_get (D := gD G) (ci := 5) (v := .int (w30.1 13)) (C := RX5) (T := TX5) (N := 38) hx hb hts hiX5 hown hK hP 0 rfl rfl 13 (by decide) k123 (fun _ h9 => h9) rfl dX5_takeVersion_83 ?_
          refine topE en30 ?_
          refine lv_bipush (v := nI 99) hx hb dX5_takeVersion_86 (by decide) ?_
          refine lv_icmp_ne (tgt := 95) hx hb dX5_takeVersion_88 (by decide) (fun c88 => ?_) (fun c88 => ?_)
          · skip
            have n88 : ¬ ((nV tx nt ((pa.1 12) + 1)) = 99) := fun q9 => c88 ((nI_eq (a := nV tx nt ((pa.1 12) + 1)) (b := 99) (by omega) (by omega)).mpr q9)
            refine lv_aload_n hx hb dX5_takeVersion_95 rfl (lv_at hl 1 rfl) ?_
            refine va_get (D := gD G) (ci := 5) (v := .int (w30.1 13)) (C := RX5) (T := TX5) (N := 38) hx hb hts hiX5 hown hK hP 0 rfl rfl 13 (by decide) k123 (fun _ h9 => h9) rfl dX5_takeVersion_96 ?_
            refine topE en30 ?_
            refine iastN (f := w30.2 16) (n := 24) (k := pa.1 15) hx hb hK hP hD hS 8 rfl rfl (by omega) dX5_takeVersion_99 (fun H locs hP hD hS => ?_)
            have hP : PP G (mw G h (oA w30 16 (upd (w30.2 16) (pa.1 15) (nI (nV tx nt ((pa.1 12) + 1))))) lt sj) H := hP
            have hD : va_D A (mw G h (oA w30 16 (upd (w30.2 16) (pa.1 15) (nI (nV tx nt ((pa.1 12) + 1))))) lt sj) := hD
            refine lv_aload_n hx hb dX5_takeVersion_100 rfl (lv_at hl 1 rfl) ?_
            refine va_get (D := gD G) (ci := 5) (v := .ref (h 17)) (C := RX5) (T := TX5) (N := 38) hx hb hts hiX5 hown hK hP 0 rfl rfl 17 (by decide) k38 (fun _ h9 => h9) rfl dX5_takeVersion_101 ?_
            refine lv_aload_n hx hb dX5_takeVersion_104 rfl (lv_at hl 1 rfl) ?_
            refine va_get (D := gD G) (ci := 5) (v := .int ((oA w30 16 (upd (w30.2 16) (pa.1 15) (nI (nV tx nt ((pa.1 12) + 1))))).1 15)) (C := RX5) (T := TX5) (N := 38) hx hb hts hiX5 hown hK hP 0 rfl rfl 15 (by decide) k129 (fun _ h9 => h9) rfl dX5_takeVersion_105 ?_
            refine topE ((hR30.1 15 (by decide)).trans (e15)) ?_
            refine lv_iconst (v := nI 0) hx hb dX5_takeVersion_108 (by decide) ?_
            refine iastN (f := (oA w30 16 (upd (w30.2 16) (pa.1 15) (nI (nV tx nt ((pa.1 12) + 1))))).2 17) (n := 24) (k := pa.1 15) hx hb hK hP hD hS 9 rfl rfl (by omega) dX5_takeVersion_109 (fun H locs hP hD hS => ?_)
            have hP : PP G (mw G h (oA (oA w30 16 (upd (w30.2 16) (pa.1 15) (nI (nV tx nt ((pa.1 12) + 1))))) 17 (upd ((oA w30 16 (upd (w30.2 16) (pa.1 15) (nI (nV tx nt ((pa.1 12) + 1))))).2 17) (pa.1 15) (nI 0))) lt sj) H := hP
            have hD : va_D A (mw G h (oA (oA w30 16 (upd (w30.2 16) (pa.1 15) (nI (nV tx nt ((pa.1 12) + 1))))) 17 (upd ((oA w30 16 (upd (w30.2 16) (pa.1 15) (nI (nV tx nt ((pa.1 12) + 1))))).2 17) (pa.1 15) (nI 0))) lt sj) := hD
            refine lv_aload_n hx hb dX5_takeVersion_110 rfl (lv_at hl 1 rfl) ?_
            refine va_get (D := gD G) (ci := 5) (v := .ref (h 18)) (C := RX5) (T := TX5) (N := 38) hx hb hts hiX5 hown hK hP 0 rfl rfl 18 (by decide) k41 (fun _ h9 => h9) rfl dX5_takeVersion_111 ?_
            refine lv_aload_n hx hb dX5_takeVersion_114 rfl (lv_at hl 1 rfl) ?_
            refine va_get (D := gD G) (ci := 5) (v := .int ((oA (oA w30 16 (upd (w30.2 16) (pa.1 15) (nI (nV tx nt ((pa.1 12) + 1))))) 17 (upd ((oA w30 16 (upd (w30.2 16) (pa.1 15) (nI (nV tx nt ((pa.1 12) + 1))))).2 17) (pa.1 15) (nI 0))).1 15)) (C := RX5) (T := TX5) (N := 38) hx hb hts hiX5 hown hK hP 0 rfl rfl 15 (by decide) k129 (fun _ h9 => h9) rfl dX5_takeVersion_115 ?_
            refine topE ((hR30.1 15 (by decide)).trans (e15)) ?_
            refine lv_iconst (v := nI 0) hx hb dX5_takeVersion_118 (by decide) ?_
            refine iastN (f := (oA (oA w30 16 (upd (w30.2 16) (pa.1 15) (nI (nV tx nt ((pa.1 12) + 1))))) 17 (upd ((oA w30 16 (upd (w30.2 16) (pa.1 15) (nI (nV tx nt ((pa.1 12) + 1))))).2 17) (pa.1 15) (nI 0))).2 18) (n := 24) (k := pa.1 15) hx hb hK hP hD hS 10 rfl rfl (by omega) dX5_takeVersion_119 (fun H locs hP hD hS => ?_)
            have hP : PP G (mw G h (oA (oA (oA w30 16 (upd (w30.2 16) (pa.1 15) (nI (nV tx nt ((pa.1 12) + 1))))) 17 (upd ((oA w30 16 (upd (w30.2 16) (pa.1 15) (nI (nV tx nt ((pa.1 12) + 1))))).2 17) (pa.1 15) (nI 0))) 18 (upd ((oA (oA w30 16 (upd (w30.2 16) (pa.1 15) (nI (nV tx nt ((pa.1 12) + 1))))) 17 (upd ((oA w30 16 (upd (w30.2 16) (pa.1 15) (nI (nV tx nt ((pa.1 12) + 1))))).2 17) (pa.1 15) (nI 0))).2 18) (pa.1 15) (nI 0))) lt sj) H := hP
            have hD : va_D A (mw G h (oA (oA (oA w30 16 (upd (w30.2 16) (pa.1 15) (nI (nV tx nt ((pa.1 12) + 1))))) 17 (upd ((oA w30 16 (upd (w30.2 16) (pa.1 15) (nI (nV tx nt ((pa.1 12) + 1))))).2 17) (pa.1 15) (nI 0))) 18 (upd ((oA (oA w30 16 (upd (w30.2 16) (pa.1 15) (nI (nV tx nt ((pa.1 12) + 1))))) 17 (upd ((oA w30 16 (upd (w30.2 16) (pa.1 15) (nI (nV tx nt ((pa.1 12) + 1))))).2 17) (pa.1 15) (nI 0))).2 18) (pa.1 15) (nI 0))) lt sj) := hD
            refine lv_aload_n hx hb dX5_takeVersion_120 rfl (lv_at hl 1 rfl) ?_
            refine lv_bipush (v := nI 43) hx hb dX5_takeVersion_121 (by decide) ?_
            refine lv_aload_n hx hb dX5_takeVersion_123 rfl (lv_at hl 1 rfl) ?_
            refine va_get (D := gD G) (ci := 5) (v := .ref (h 17)) (C := RX5) (T := TX5) (N := 38) hx hb hts hiX5 hown hK hP 0 rfl rfl 17 (by decide) k38 (fun _ h9 => h9) rfl dX5_takeVersion_124 ?_
            refine cXi (As := [.int (nI 43), .ref (h 17)]) (rest := []) (S := oS × Int64 × (Nat → Int64)) (wa := mw G h (oA (oA (oA w30 16 (upd (w30.2 16) (pa.1 15) (nI (nV tx nt ((pa.1 12) + 1))))) 17 (upd ((oA w30 16 (upd (w30.2 16) (pa.1 15) (nI (nV tx nt ((pa.1 12) + 1))))).2 17) (pa.1 15) (nI 0))) 18 (upd ((oA (oA w30 16 (upd (w30.2 16) (pa.1 15) (nI (nV tx nt ((pa.1 12) + 1))))) 17 (upd ((oA w30 16 (upd (w30.2 16) (pa.1 15) (nI (nV tx nt ((pa.1 12) + 1))))).2 17) (pa.1 15) (nI 0))).2 18) (pa.1 15) (nI 0))) lt sj) (w1 := fun v => mw G h v.1 v.2.1 v.2.2) ⟨hx, hb, hml, hown, hts⟩ (mt_X5_takeOthers17 l G h _ (oA (oA (oA w30 16 (upd (w30.2 16) (pa.1 15) (nI (nV tx nt ((pa.1 12) + 1))))) 17 (upd ((oA w30 16 (upd (w30.2 16) (pa.1 15) (nI (nV tx nt ((pa.1 12) + 1))))).2 17) (pa.1 15) (nI 0))) 18 (upd ((oA (oA w30 16 (upd (w30.2 16) (pa.1 15) (nI (nV tx nt ((pa.1 12) + 1))))) 17 (upd ((oA w30 16 (upd (w30.2 16) (pa.1 15) (nI (nV tx nt ((pa.1 12) + 1))))).2 17) (pa.1 15) (nI 0))).2 18) (pa.1 15) (nI 0))) lt sj nt (nE tx nt ((pa.1 12) + 1)) (pa.1 15) tx (nI 43) (nI 0) ((hR30.1 10 (by decide)).trans (hnt)) (hb30) ((hR30.1 15 (by decide)).trans (e15)) (by first | assumption | omega) (by first | assumption | omega) (by first | assumption | omega) (htx30) (by decide) (pk_us) (pk_us)) (cwV 2 hts gX5_takeVersion_X5_takeOthers rfl rfl rfl ⟨rfl, hd_X5_takeOthers⟩ ⟨Nat.le_of_ble_eq_true rfl, Nat.le_of_ble_eq_true rfl⟩) hK hN hP hD hS hA (fun _ => rfl) 0 5 rfl rfl rfl hl.1 rfl (Nat.le_of_ble_eq_true rfl) ⟨Nat.zero_le _, Nat.zero_le _⟩ dX5_takeVersion_127 (fun r127 u127 H locs hw127 hP hD hS => ?_)
            rcases hw127 with ⟨w127, b127, x127, rfl, hR127, hb127, hab127, hbn127, eK127, eO127, hO127, e11127, rfl⟩ | ⟨w127, b127, f127, p127, e127, y127, rfl, hR127, hb127, hab127, hbn127, hO127, e11127, rfl, hf127, hg127⟩
            · skip
              have hP : PP G (mw G h w127 lt sj) H := hP
              have hD : va_D A (mw G h w127 lt sj) := hD
              have htx127 : w127.2 9 = tx := (hR127.2 9 (by decide)).trans (htx30)
              refine lv_istore_n (lv' := [(1, .int (nI 0)), (0, .ref (h 0))]) hx hb dX5_takeVersion_130 rfl hl (by decide) rfl (fun ls hl => ?_)
              refine lv_iload_n hx hb dX5_takeVersion_131 rfl (lv_at hl 0 rfl) ?_
              refine lv_if_le (tgt := 139) hx hb dX5_takeVersion_132 (by decide) (fun _ => ?_) (fun c9 => absurd (by decide) c9)
              refine lv_aload_n hx hb dX5_takeVersion_139 rfl (lv_at hl 1 rfl) ?_
              refine lv_bipush (v := nI 45) hx hb dX5_takeVersion_140 (by decide) ?_
              refine lv_aload_n hx hb dX5_takeVersion_142 rfl (lv_at hl 1 rfl) ?_
              refine va_get (D := gD G) (ci := 5) (v := .ref (h 18)) (C := RX5) (T := TX5) (N := 38) hx hb hts hiX5 hown hK hP 0 rfl rfl 18 (by decide) k41 (fun _ h9 => h9) rfl dX5_takeVersion_143 ?_
              refine cXi (As := [.int (nI 45), .ref (h 18)]) (rest := []) (S := oS × Int64 × (Nat → Int64)) (wa := mw G h w127 lt sj) (w1 := fun v => mw G h v.1 v.2.1 v.2.2) ⟨hx, hb, hml, hown, hts⟩ (mt_X5_takeOthers18 l G h _ w127 lt sj nt b127 (pa.1 15) tx (nI 45) x127 ((hR127.1 10 (by decide)).trans ((hR30.1 10 (by decide)).trans (hnt))) (hb127) ((hR127.1 15 (by decide)).trans ((hR30.1 15 (by decide)).trans (e15))) (by first | assumption | omega) (by first | assumption | omega) (by first | assumption | omega) (htx127) (by decide) ((congrFun eO127 _).trans pk_us) (by rw [eK127]; exact pk_us)) (cwV 2 hts gX5_takeVersion_X5_takeOthers rfl rfl rfl ⟨rfl, hd_X5_takeOthers⟩ ⟨Nat.le_of_ble_eq_true rfl, Nat.le_of_ble_eq_true rfl⟩) hK hN hP hD hS hA (fun _ => rfl) 0 5 rfl rfl rfl hl.1 rfl (Nat.le_of_ble_eq_true rfl) ⟨Nat.zero_le _, Nat.zero_le _⟩ dX5_takeVersion_146 (fun r146 u146 H locs hw146 hP hD hS => ?_)
              rcases hw146 with ⟨w146, b146, x146, rfl, hR146, hb146, hab146, hbn146, eK146, eO146, hO146, e11146, rfl⟩ | ⟨w146, b146, f146, p146, e146, y146, rfl, hR146, hb146, hab146, hbn146, hO146, e11146, rfl, hf146, hg146⟩
              · skip
                have hP : PP G (mw G h w146 lt sj) H := hP
                have hD : va_D A (mw G h w146 lt sj) := hD
                have htx146 : w146.2 9 = tx := (hR146.2 9 (by decide)).trans (htx127)
                refine lv_istore_n (lv' := [(1, .int (nI 0)), (0, .ref (h 0))]) hx hb dX5_takeVersion_149 rfl hl (by decide) rfl (fun ls hl => ?_)
                refine lv_iload_n hx hb dX5_takeVersion_150 rfl (lv_at hl 0 rfl) ?_
                refine lv_if_ne (tgt := 173) hx hb dX5_takeVersion_151 (by decide) (fun c9 => absurd (by decide) c9) (fun _ => ?_)
                refine lv_aload_n hx hb dX5_takeVersion_154 rfl (lv_at hl 1 rfl) ?_
                refine cXi (As := []) (rest := []) (S := oS × Int64 × (Nat → Int64)) (wa := mw G h w146 lt sj) (w1 := fun v => mw G h v.1 v.2.1 v.2.2) ⟨hx, hb, hml, hown, hts⟩ (mt_X5_here l G h _ w146 lt sj nt b146 tx ((hR146.1 10 (by decide)).trans ((hR127.1 10 (by decide)).trans ((hR30.1 10 (by decide)).trans (hnt)))) (hb146) (by first | assumption | omega) (by first | assumption | omega) (htx146)) (cwV 0 hts gX5_takeVersion_X5_here rfl rfl rfl ⟨rfl, hd_X5_here⟩ ⟨Nat.le_of_ble_eq_true rfl, Nat.le_of_ble_eq_true rfl⟩) hK hN hP hD hS hA (fun _ => rfl) 0 5 rfl rfl rfl hl.1 rfl (Nat.le_of_ble_eq_true rfl) ⟨Nat.zero_le _, Nat.zero_le _⟩ dX5_takeVersion_155 (fun r155 u155 H locs hw155 hP hD hS => ?_)
                obtain ⟨rfl, rfl⟩ := hw155
                have hP : PP G (mw G h (oI w146 12 (nI (sk tx nt b146))) lt sj) H := hP
                have hD : va_D A (mw G h (oI w146 12 (nI (sk tx nt b146))) lt sj) := hD
                have hge155 : b146 ≤ sk tx nt b146 := rn_ge _
                have hle155 : sk tx nt b146 ≤ nt := rn_le (by omega)
                refine lv_bipush (v := nI 59) hx hb dX5_takeVersion_158 (by decide) ?_
                refine lv_icmp_eq (tgt := 173) hx hb dX5_takeVersion_160 (by decide) (fun c160 => ?_) (fun c160 => ?_)
                · skip
                  have hlt160 := hd_c c160 (by decide)
                  refine lv_aload_n hx hb dX5_takeVersion_173 rfl (lv_at hl 1 rfl) ?_
                  refine lv_dup hx hb dX5_takeVersion_174 rfl ?_
                  refine va_get (D := gD G) (ci := 5) (v := .int (nI (sk tx nt b146))) (C := RX5) (T := TX5) (N := 38) hx hb hts hiX5 hown hK hP 0 rfl rfl 12 (by decide) k105 (fun _ h9 => h9) rfl dX5_takeVersion_175 ?_
                  refine lv_iconst (v := nI 1) hx hb dX5_takeVersion_178 (by decide) ?_
                  refine lv_iadd hx hb dX5_takeVersion_179 ?_
                  refine topE (y := nI ((sk tx nt b146) + 1)) (nI_add (sk tx nt b146) 1) ?_
                  refine va_put (D := gD G) (ci := 5) (v := .int (nI ((sk tx nt b146) + 1))) (ty := .int) (C := RX5) (T := TX5) (N := 38) hx hb hts hiX5 tyX5 tyX5_ok nmX5 hown hK hP hD hS 0 rfl rfl 12 (by decide) k105 (fun _ h9 => h9) rfl (tyX5_ok 12 (by decide)) (rfl) (rfl) (Nat.le_of_ble_eq_true rfl) dX5_takeVersion_180 (fun H locs hP hD hS => ?_)
                  have hP : PP G (mw G h (oI (oI w146 12 (nI (sk tx nt b146))) 12 (nI ((sk tx nt b146) + 1))) lt sj) H := hP
                  have hD : va_D A (mw G h (oI (oI w146 12 (nI (sk tx nt b146))) 12 (nI ((sk tx nt b146) + 1))) lt sj) := hD
                  refine lv_aload_n hx hb dX5_takeVersion_183 rfl (lv_at hl 1 rfl) ?_
                  refine lv_dup hx hb dX5_takeVersion_184 rfl ?_
                  refine va_get (D := gD G) (ci := 5) (v := .int ((oI (oI w146 12 (nI (sk tx nt b146))) 12 (nI ((sk tx nt b146) + 1))).1 15)) (C := RX5) (T := TX5) (N := 38) hx hb hts hiX5 hown hK hP 0 rfl rfl 15 (by decide) k129 (fun _ h9 => h9) rfl dX5_takeVersion_185 ?_
                  refine topE ((hR146.1 15 (by decide)).trans ((hR127.1 15 (by decide)).trans ((hR30.1 15 (by decide)).trans (e15)))) ?_
                  refine lv_iconst (v := nI 1) hx hb dX5_takeVersion_188 (by decide) ?_
                  refine lv_iadd hx hb dX5_takeVersion_189 ?_
                  refine topE (y := nI ((pa.1 15) + 1)) (nI_add (pa.1 15) 1) ?_
                  refine va_put (D := gD G) (ci := 5) (v := .int (nI ((pa.1 15) + 1))) (ty := .int) (C := RX5) (T := TX5) (N := 38) hx hb hts hiX5 tyX5 tyX5_ok nmX5 hown hK hP hD hS 0 rfl rfl 15 (by decide) k129 (fun _ h9 => h9) rfl (tyX5_ok 15 (by decide)) (rfl) (rfl) (Nat.le_of_ble_eq_true rfl) dX5_takeVersion_190 (fun H locs hP hD hS => ?_)
                  have hP : PP G (mw G h (oI (oI (oI w146 12 (nI (sk tx nt b146))) 12 (nI ((sk tx nt b146) + 1))) 15 (nI ((pa.1 15) + 1))) lt sj) H := hP
                  have hD : va_D A (mw G h (oI (oI (oI w146 12 (nI (sk tx nt b146))) 12 (nI ((sk tx nt b146) + 1))) 15 (nI ((pa.1 15) + 1))) lt sj) := hD
                  refine lv_iload_n hx hb dX5_takeVersion_193 rfl (lv_at hl 0 rfl) ?_
                  exact W.iret (v := nI 0) hx hb hr (fun t ht hW => ⟨⟨nI 0, (oI (oI (oI w146 12 (nI (sk tx nt b146))) 12 (nI ((sk tx nt b146) + 1))) 15 (nI ((pa.1 15) + 1)), lt, sj), rfl, by
                                        have HQ : vST tx nt pa = (0, 0, vOK tx nt pa (nV tx nt (pa.1 12 + 1)) b146 x127 x146) := (vST_a n6 hf30 (by omega)).trans (by rw [hO127, vSb_0, hO146, vSc_0 c160])
                                        exact Or.inl ⟨_, vOK tx nt pa (nV tx nt (pa.1 12 + 1)) b146 x127 x146, rfl, by repeat (first | exact rel.refl _ | exact rel.mono (by assumption) (by decide) (by decide) | refine rel.I (by decide) ?_ | refine rel.A (by decide) ?_ | refine rel.trans ?_ (rel.mono (by assumption) (by decide) (by decide))), HQ, ⟨(hR146.1 10 (by decide)).trans ((hR127.1 10 (by decide)).trans ((hR30.1 10 (by decide)).trans (hnt))), rfl, rfl, (hR146.1 19 (by decide)).trans ((hR127.1 19 (by decide)).trans ((hR30.1 19 (by decide)).trans (e19))), (hR146.1 23 (by decide)).trans ((hR127.1 23 (by decide)).trans ((hR30.1 23 (by decide)).trans (e23))), ⟨q240, (show (sk tx nt b146) + 1 ≤ nt by omega), (show (pa.1 15) + 1 ≤ 24 by omega), (show pa.1 19 ≤ 120 by omega), (show pa.1 23 ≤ (sk tx nt b146) + 1 by omega), (by show parOK (upd (pa.2 16) (pa.1 15) (if (nV tx nt (pa.1 12 + 1)) = 99 then -1 else nI (nV tx nt (pa.1 12 + 1)))) (pa.1 15 + 1); rw [← (show (nI (nV tx nt (pa.1 12 + 1))) = if (nV tx nt (pa.1 12 + 1)) = 99 then -1 else nI (nV tx nt (pa.1 12 + 1)) from (if_neg n44).symm)]; exact parOK_upd qpar (Or.inr ⟨(nV tx nt (pa.1 12 + 1)), by omega, rfl⟩))⟩, RwM_v (q := (nI (nV tx nt (pa.1 12 + 1)))) hrw ((if_neg n44).symm) (by show w146.2 16 = _; rw [hR146.2 16 (by decide)]; show w127.2 16 = _; rw [hR127.2 16 (by decide)]; show upd (w30.2 16) _ _ = _; rw [hR30.2 16 (by decide)]; rfl) (by show w146.2 17 = _; rw [eO146]; show w127.2 17 = _; rw [eK127]; show upd (upd (w30.2 17) _ _) _ _ = _; rw [upd_upd, hR30.2 17 (by decide)]; rfl) (by show w146.2 18 = _; rw [eK146]; show upd (w127.2 18) _ _ = _; rw [eO127]; show upd (upd (w30.2 18) _ _) _ _ = _; rw [upd_upd, hR30.2 18 (by decide)]; rfl) ((hR146.2 20 (by decide)).trans ((hR127.2 20 (by decide)).trans (hR30.2 20 (by decide)))) ((hR146.2 21 (by decide)).trans ((hR127.2 21 (by decide)).trans (hR30.2 21 (by decide)))) ((hR146.2 22 (by decide)).trans ((hR127.2 22 (by decide)).trans (hR30.2 22 (by decide)))) ((hR146.2 24 (by decide)).trans ((hR127.2 24 (by decide)).trans (hR30.2 24 (by decide)))) ((hR146.2 25 (by decide)).trans ((hR127.2 25 (by decide)).trans (hR30.2 25 (by decide))))⟩, (show pa.1 12 < (sk tx nt b146) + 1 by omega), e11146.trans (e11127.trans e1130), rfl⟩, show PP G (mw G h (oI (oI (oI w146 12 (nI (sk tx nt b146))) 12 (nI ((sk tx nt b146) + 1))) 15 (nI ((pa.1 15) + 1))) lt sj) t.heap by rw [ht]; exact hP⟩, hS.F ht⟩) hS.2.2 dX5_takeVersion_194
                · skip
                  refine lv_aload_n hx hb dX5_takeVersion_163 rfl (lv_at hl 1 rfl) ?_
                  refine lv_iconst (v := nI 1) hx hb dX5_takeVersion_164 (by decide) ?_
                  refine lv_aload_n hx hb dX5_takeVersion_165 rfl (lv_at hl 1 rfl) ?_
                  refine va_get (D := gD G) (ci := 5) (v := .int (nI (sk tx nt b146))) (C := RX5) (T := TX5) (N := 38) hx hb hts hiX5 hown hK hP 0 rfl rfl 12 (by decide) k105 (fun _ h9 => h9) rfl dX5_takeVersion_166 ?_
                  refine cXi (As := [.int (nI 1), .int (nI (sk tx nt b146))]) (rest := []) (S := oS × Int64 × (Nat → Int64)) (wa := mw G h (oI w146 12 (nI (sk tx nt b146))) lt sj) (w1 := fun v => mw G h v.1 v.2.1 v.2.2) ⟨hx, hb, hml, hown, hts⟩ (mt_X5_fails l G h _ (oI w146 12 (nI (sk tx nt b146))) lt sj (nI 1) (nI (sk tx nt b146))) (cwV 2 hts gX5_takeVersion_X5_fails rfl rfl rfl ⟨rfl, hd_X5_fails⟩ ⟨Nat.le_of_ble_eq_true rfl, Nat.le_of_ble_eq_true rfl⟩) hK hN hP hD hS hA (fun _ => rfl) 0 5 rfl rfl rfl hl.1 rfl (Nat.le_of_ble_eq_true rfl) ⟨Nat.zero_le _, Nat.zero_le _⟩ dX5_takeVersion_169 (fun r169 u169 H locs hw169 hP hD hS => ?_)
                  obtain ⟨rfl, rfl⟩ := hw169
                  have hP : PP G (mw G h (oI (oI w146 12 (nI (sk tx nt b146))) 11 (nI (sk tx nt b146))) lt sj) H := hP
                  have hD : va_D A (mw G h (oI (oI w146 12 (nI (sk tx nt b146))) 11 (nI (sk tx nt b146))) lt sj) := hD
                  exact W.iret (v := nI 1) hx hb hr (fun t ht hW => ⟨⟨nI 1, (oI (oI w146 12 (nI (sk tx nt b146))) 11 (nI (sk tx nt b146)), lt, sj), rfl, Or.inr ⟨_, 1, (sk tx nt b146), pa, rfl, by repeat (first | exact rel.refl _ | exact rel.mono (by assumption) (by decide) (by decide) | refine rel.I (by decide) ?_ | refine rel.A (by decide) ?_ | refine rel.trans ?_ (rel.mono (by assumption) (by decide) (by decide))), (vST_a n6 hf30 (by omega)).trans (by rw [hO127, vSb_0, hO146, vSc_1 c160]), rfl, by omega, by omega, rfl⟩, show PP G (mw G h (oI (oI w146 12 (nI (sk tx nt b146))) 11 (nI (sk tx nt b146))) lt sj) t.heap by rw [ht]; exact hP⟩, hS.F ht⟩) hS.2.2 dX5_takeVersion_172
              · skip
                have hP : PP G (mw G h w146 lt sj) H := hP
                have hD : va_D A (mw G h w146 lt sj) := hD
                have htx146 : w146.2 9 = tx := (hR146.2 9 (by decide)).trans (htx127)
                refine lv_istore_n (lv' := [(1, .int (nI (f146))), (0, .ref (h 0))]) hx hb dX5_takeVersion_149 rfl hl (by decide) rfl (fun ls hl => ?_)
                refine lv_iload_n hx hb dX5_takeVersion_150 rfl (lv_at hl 0 rfl) ?_
                refine lv_if_ne (tgt := 173) hx hb dX5_takeVersion_151 (by decide) (fun c151 => ?_) (fun c151 => ?_)
                · skip
                  have n151 : ¬ (f146 = 0) := fun q9 => c151 ((nI_eq (a := f146) (b := 0) (by omega) (by omega)).mpr q9)
                  refine lv_aload_n hx hb dX5_takeVersion_173 rfl (lv_at hl 1 rfl) ?_
                  refine lv_dup hx hb dX5_takeVersion_174 rfl ?_
                  refine va_get (D := gD G) (ci := 5) (v := .int (w146.1 12)) (C := RX5) (T := TX5) (N := 38) hx hb hts hiX5 hown hK hP 0 rfl rfl 12 (by decide) k105 (fun _ h9 => h9) rfl dX5_takeVersion_175 ?_
                  refine topE hb146 ?_
                  refine lv_iconst (v := nI 1) hx hb dX5_takeVersion_178 (by decide) ?_
                  refine lv_iadd hx hb dX5_takeVersion_179 ?_
                  refine topE (y := nI (b146 + 1)) (nI_add b146 1) ?_
                  refine va_put (D := gD G) (ci := 5) (v := .int (nI (b146 + 1))) (ty := .int) (C := RX5) (T := TX5) (N := 38) hx hb hts hiX5 tyX5 tyX5_ok nmX5 hown hK hP hD hS 0 rfl rfl 12 (by decide) k105 (fun _ h9 => h9) rfl (tyX5_ok 12 (by decide)) (rfl) (rfl) (Nat.le_of_ble_eq_true rfl) dX5_takeVersion_180 (fun H locs hP hD hS => ?_)
                  have hP : PP G (mw G h (oI w146 12 (nI (b146 + 1))) lt sj) H := hP
                  have hD : va_D A (mw G h (oI w146 12 (nI (b146 + 1))) lt sj) := hD
                  refine lv_aload_n hx hb dX5_takeVersion_183 rfl (lv_at hl 1 rfl) ?_
                  refine lv_dup hx hb dX5_takeVersion_184 rfl ?_
                  refine va_get (D := gD G) (ci := 5) (v := .int ((oI w146 12 (nI (b146 + 1))).1 15)) (C := RX5) (T := TX5) (N := 38) hx hb hts hiX5 hown hK hP 0 rfl rfl 15 (by decide) k129 (fun _ h9 => h9) rfl dX5_takeVersion_185 ?_
                  refine topE ((hR146.1 15 (by decide)).trans ((hR127.1 15 (by decide)).trans ((hR30.1 15 (by decide)).trans (e15)))) ?_
                  refine lv_iconst (v := nI 1) hx hb dX5_takeVersion_188 (by decide) ?_
                  refine lv_iadd hx hb dX5_takeVersion_189 ?_
                  refine topE (y := nI ((pa.1 15) + 1)) (nI_add (pa.1 15) 1) ?_
                  refine va_put (D := gD G) (ci := 5) (v := .int (nI ((pa.1 15) + 1))) (ty := .int) (C := RX5) (T := TX5) (N := 38) hx hb hts hiX5 tyX5 tyX5_ok nmX5 hown hK hP hD hS 0 rfl rfl 15 (by decide) k129 (fun _ h9 => h9) rfl (tyX5_ok 15 (by decide)) (rfl) (rfl) (Nat.le_of_ble_eq_true rfl) dX5_takeVersion_190 (fun H locs hP hD hS => ?_)
                  have hP : PP G (mw G h (oI (oI w146 12 (nI (b146 + 1))) 15 (nI ((pa.1 15) + 1))) lt sj) H := hP
                  have hD : va_D A (mw G h (oI (oI w146 12 (nI (b146 + 1))) 15 (nI ((pa.1 15) + 1))) lt sj) := hD
                  refine lv_iload_n hx hb dX5_takeVersion_193 rfl (lv_at hl 0 rfl) ?_
                  exact W.iret (v := nI (f146)) hx hb hr (fun t ht hW => ⟨⟨nI (f146), (oI (oI w146 12 (nI (b146 + 1))) 15 (nI ((pa.1 15) + 1)), lt, sj), rfl, Or.inr ⟨_, f146, p146, pa, rfl, by repeat (first | exact rel.refl _ | exact rel.mono (by assumption) (by decide) (by decide) | refine rel.I (by decide) ?_ | refine rel.A (by decide) ?_ | refine rel.trans ?_ (rel.mono (by assumption) (by decide) (by decide))), (vST_a n6 hf30 (by omega)).trans (by rw [hO127, vSb_0, hO146, vSc_f (by omega)]), e11146, by omega, by omega, rfl⟩, show PP G (mw G h (oI (oI w146 12 (nI (b146 + 1))) 15 (nI ((pa.1 15) + 1))) lt sj) t.heap by rw [ht]; exact hP⟩, hS.F ht⟩) hS.2.2 dX5_takeVersion_194
                · skip
                  have n151 : f146 = 0 := (nI_eq (a := f146) (b := 0) (by omega) (by omega)).mp c151
                  omega
            · skip
              have hP : PP G (mw G h w127 lt sj) H := hP
              have hD : va_D A (mw G h w127 lt sj) := hD
              have htx127 : w127.2 9 = tx := (hR127.2 9 (by decide)).trans (htx30)
              refine lv_istore_n (lv' := [(1, .int (nI (f127))), (0, .ref (h 0))]) hx hb dX5_takeVersion_130 rfl hl (by decide) rfl (fun ls hl => ?_)
              refine lv_iload_n hx hb dX5_takeVersion_131 rfl (lv_at hl 0 rfl) ?_
              refine lv_if_le (tgt := 139) hx hb dX5_takeVersion_132 (by decide) (fun c132 => ?_) (fun c132 => ?_)
              · skip
                have n132 : f127 ≤ 0 := (nI_leI (a := f127) (b := 0) (by omega) (by omega)).mp c132
                omega
              · skip
                have n132 : ¬ (f127 ≤ 0) := fun q9 => c132 ((nI_leI (a := f127) (b := 0) (by omega) (by omega)).mpr q9)
                refine lv_iload_n hx hb dX5_takeVersion_135 rfl (lv_at hl 0 rfl) ?_
                refine lv_goto (tgt := 149) hx hb dX5_takeVersion_136 (by decide) ?_
                refine lv_istore_n (lv' := [(1, .int (nI (f127))), (0, .ref (h 0))]) hx hb dX5_takeVersion_149 rfl hl (by decide) rfl (fun ls hl => ?_)
                refine lv_iload_n hx hb dX5_takeVersion_150 rfl (lv_at hl 0 rfl) ?_
                refine lv_if_ne (tgt := 173) hx hb dX5_takeVersion_151 (by decide) (fun c151 => ?_) (fun c151 => ?_)
                · skip
                  have n151 : ¬ (f127 = 0) := fun q9 => c151 ((nI_eq (a := f127) (b := 0) (by omega) (by omega)).mpr q9)
                  refine lv_aload_n hx hb dX5_takeVersion_173 rfl (lv_at hl 1 rfl) ?_
                  refine lv_dup hx hb dX5_takeVersion_174 rfl ?_
                  refine va_get (D := gD G) (ci := 5) (v := .int (w127.1 12)) (C := RX5) (T := TX5) (N := 38) hx hb hts hiX5 hown hK hP 0 rfl rfl 12 (by decide) k105 (fun _ h9 => h9) rfl dX5_takeVersion_175 ?_
                  refine topE hb127 ?_
                  refine lv_iconst (v := nI 1) hx hb dX5_takeVersion_178 (by decide) ?_
                  refine lv_iadd hx hb dX5_takeVersion_179 ?_
                  refine topE (y := nI (b127 + 1)) (nI_add b127 1) ?_
                  refine va_put (D := gD G) (ci := 5) (v := .int (nI (b127 + 1))) (ty := .int) (C := RX5) (T := TX5) (N := 38) hx hb hts hiX5 tyX5 tyX5_ok nmX5 hown hK hP hD hS 0 rfl rfl 12 (by decide) k105 (fun _ h9 => h9) rfl (tyX5_ok 12 (by decide)) (rfl) (rfl) (Nat.le_of_ble_eq_true rfl) dX5_takeVersion_180 (fun H locs hP hD hS => ?_)
                  have hP : PP G (mw G h (oI w127 12 (nI (b127 + 1))) lt sj) H := hP
                  have hD : va_D A (mw G h (oI w127 12 (nI (b127 + 1))) lt sj) := hD
                  refine lv_aload_n hx hb dX5_takeVersion_183 rfl (lv_at hl 1 rfl) ?_
                  refine lv_dup hx hb dX5_takeVersion_184 rfl ?_
                  refine va_get (D := gD G) (ci := 5) (v := .int ((oI w127 12 (nI (b127 + 1))).1 15)) (C := RX5) (T := TX5) (N := 38) hx hb hts hiX5 hown hK hP 0 rfl rfl 15 (by decide) k129 (fun _ h9 => h9) rfl dX5_takeVersion_185 ?_
                  refine topE ((hR127.1 15 (by decide)).trans ((hR30.1 15 (by decide)).trans (e15))) ?_
                  refine lv_iconst (v := nI 1) hx hb dX5_takeVersion_188 (by decide) ?_
                  refine lv_iadd hx hb dX5_takeVersion_189 ?_
                  refine topE (y := nI ((pa.1 15) + 1)) (nI_add (pa.1 15) 1) ?_
                  refine va_put (D := gD G) (ci := 5) (v := .int (nI ((pa.1 15) + 1))) (ty := .int) (C := RX5) (T := TX5) (N := 38) hx hb hts hiX5 tyX5 tyX5_ok nmX5 hown hK hP hD hS 0 rfl rfl 15 (by decide) k129 (fun _ h9 => h9) rfl (tyX5_ok 15 (by decide)) (rfl) (rfl) (Nat.le_of_ble_eq_true rfl) dX5_takeVersion_190 (fun H locs hP hD hS => ?_)
                  have hP : PP G (mw G h (oI (oI w127 12 (nI (b127 + 1))) 15 (nI ((pa.1 15) + 1))) lt sj) H := hP
                  have hD : va_D A (mw G h (oI (oI w127 12 (nI (b127 + 1))) 15 (nI ((pa.1 15) + 1))) lt sj) := hD
                  refine lv_iload_n hx hb dX5_takeVersion_193 rfl (lv_at hl 0 rfl) ?_
                  exact W.iret (v := nI (f127)) hx hb hr (fun t ht hW => ⟨⟨nI (f127), (oI (oI w127 12 (nI (b127 + 1))) 15 (nI ((pa.1 15) + 1)), lt, sj), rfl, Or.inr ⟨_, f127, p127, pa, rfl, by repeat (first | exact rel.refl _ | exact rel.mono (by assumption) (by decide) (by decide) | refine rel.I (by decide) ?_ | refine rel.A (by decide) ?_ | refine rel.trans ?_ (rel.mono (by assumption) (by decide) (by decide))), (vST_a n6 hf30 (by omega)).trans (by rw [hO127, vSb_f (by omega)]), e11127, by omega, by omega, rfl⟩, show PP G (mw G h (oI (oI w127 12 (nI (b127 + 1))) 15 (nI ((pa.1 15) + 1))) lt sj) t.heap by rw [ht]; exact hP⟩, hS.F ht⟩) hS.2.2 dX5_takeVersion_194
                · skip
                  have n151 : f127 = 0 := (nI_eq (a := f127) (b := 0) (by omega) (by omega)).mp c151
                  omega
          · skip
            have n88 : (nV tx nt ((pa.1 12) + 1)) = 99 := (nI_eq (a := nV tx nt ((pa.1 12) + 1)) (b := 99) (by omega) (by omega)).mp c88
            omega
        · skip
          have n55 : ¬ ((nV tx nt ((pa.1 12) + 1)) < (pa.1 15)) := fun q9 => c55 ((nI_ltI (a := nV tx nt ((pa.1 12) + 1)) (b := pa.1 15) (by omega) (by omega)).mpr q9)
          refine lv_aload_n hx hb dX5_takeVersion_58 rfl (lv_at hl 1 rfl) ?_
          refine lv_iconst (v := nI 2) hx hb dX5_takeVersion_59 (by decide) ?_
          refine lv_aload_n hx hb dX5_takeVersion_60 rfl (lv_at hl 1 rfl) ?_
          refine va_get (D := gD G) (ci := 5) (v := .int (w30.1 14)) (C := RX5) (T := TX5) (N := 38) hx hb hts hiX5 hown hK hP 0 rfl rfl 14 (by decide) k120 (fun _ h9 => h9) rfl dX5_takeVersion_61 ?_
          refine topE e1430 ?_
          refine cXi (As := [.int (nI 2), .int (nI (sk tx nt ((pa.1 12) + 1)))]) (rest := []) (S := oS × Int64 × (Nat → Int64)) (wa := mw G h w30 lt sj) (w1 := fun v => mw G h v.1 v.2.1 v.2.2) ⟨hx, hb, hml, hown, hts⟩ (mt_X5_fails l G h _ w30 lt sj (nI 2) (nI (sk tx nt ((pa.1 12) + 1)))) (cwV 2 hts gX5_takeVersion_X5_fails rfl rfl rfl ⟨rfl, hd_X5_fails⟩ ⟨Nat.le_of_ble_eq_true rfl, Nat.le_of_ble_eq_true rfl⟩) hK hN hP hD hS hA (fun _ => rfl) 0 5 rfl rfl rfl hl.1 rfl (Nat.le_of_ble_eq_true rfl) ⟨Nat.zero_le _, Nat.zero_le _⟩ dX5_takeVersion_64 (fun r64 u64 H locs hw64 hP hD hS => ?_)
          obtain ⟨rfl, rfl⟩ := hw64
          have hP : PP G (mw G h (oI w30 11 (nI (sk tx nt ((pa.1 12) + 1)))) lt sj) H := hP
          have hD : va_D A (mw G h (oI w30 11 (nI (sk tx nt ((pa.1 12) + 1)))) lt sj) := hD
          exact W.iret (v := nI 2) hx hb hr (fun t ht hW => ⟨⟨nI 2, (oI w30 11 (nI (sk tx nt ((pa.1 12) + 1))), lt, sj), rfl, Or.inr ⟨_, 2, (sk tx nt (pa.1 12 + 1)), pa, rfl, by repeat (first | exact rel.refl _ | exact rel.mono (by assumption) (by decide) (by decide) | refine rel.I (by decide) ?_ | refine rel.A (by decide) ?_ | refine rel.trans ?_ (rel.mono (by assumption) (by decide) (by decide))), vST_p n6 hf30 n44 (by omega), rfl, by omega, by omega, rfl⟩, show PP G (mw G h (oI w30 11 (nI (sk tx nt ((pa.1 12) + 1)))) lt sj) t.heap by rw [ht]; exact hP⟩, hS.F ht⟩) hS.2.2 dX5_takeVersion_67
    · skip
      have hP : PP G (mw G h w30 lt sj) H := hP
      have hD : va_D A (mw G h w30 lt sj) := hD
      have htx30 : w30.2 9 = tx := (hR30.2 9 (by decide)).trans (htx)
      have hEg30 : ((pa.1 12) + 1) ≤ nE tx nt ((pa.1 12) + 1) := nE_ge _ _ _
      have hEl30 : nE tx nt ((pa.1 12) + 1) ≤ nt := nE_le (by omega)
      refine lv_istore_n (lv' := [(1, .int (nI 1)), (0, .ref (h 0))]) hx hb dX5_takeVersion_33 rfl hl (by decide) rfl (fun ls hl => ?_)
      refine lv_iload_n hx hb dX5_takeVersion_34 rfl (lv_at hl 0 rfl) ?_
      refine lv_if_ne (tgt := 68) hx hb dX5_takeVersion_35 (by decide) (fun _ => ?_) (fun c9 => absurd c9 (by decide))
      refine lv_iload_n hx hb dX5_takeVersion_68 rfl (lv_at hl 0 rfl) ?_
      refine lv_if_le (tgt := 74) hx hb dX5_takeVersion_69 (by decide) (fun c9 => absurd c9 (by decide)) (fun _ => ?_)
      refine lv_iload_n hx hb dX5_takeVersion_72 rfl (lv_at hl 0 rfl) ?_
      exact W.iret (v := nI 1) hx hb hr (fun t ht hW => ⟨⟨nI 1, (w30, lt, sj), rfl, Or.inr ⟨_, 1, (sk tx nt (pa.1 12 + 1)), pa, rfl, by repeat (first | exact rel.refl _ | exact rel.mono (by assumption) (by decide) (by decide) | refine rel.I (by decide) ?_ | refine rel.A (by decide) ?_ | refine rel.trans ?_ (rel.mono (by assumption) (by decide) (by decide))), (vST_n n6 (by rw [hf30]; decide)).trans (by rw [hf30]), e1130, by omega, by omega, rfl⟩, show PP G (mw G h w30 lt sj) t.heap by rw [ht]; exact hP⟩, hS.F ht⟩) hS.2.2 dX5_takeVersion_73
    · skip
      have hP : PP G (mw G h w30 lt sj) H := hP
      have hD : va_D A (mw G h w30 lt sj) := hD
      have htx30 : w30.2 9 = tx := (hR30.2 9 (by decide)).trans (htx)
      have hEg30 : ((pa.1 12) + 1) ≤ nE tx nt ((pa.1 12) + 1) := nE_ge _ _ _
      have hEl30 : nE tx nt ((pa.1 12) + 1) ≤ nt := nE_le (by omega)
      refine lv_istore_n (lv' := [(1, .int (nI 2)), (0, .ref (h 0))]) hx hb dX5_takeVersion_33 rfl hl (by decide) rfl (fun ls hl => ?_)
      refine lv_iload_n hx hb dX5_takeVersion_34 rfl (lv_at hl 0 rfl) ?_
      refine lv_if_ne (tgt := 68) hx hb dX5_takeVersion_35 (by decide) (fun _ => ?_) (fun c9 => absurd c9 (by decide))
      refine lv_iload_n hx hb dX5_takeVersion_68 rfl (lv_at hl 0 rfl) ?_
      refine lv_if_le (tgt := 74) hx hb dX5_takeVersion_69 (by decide) (fun c9 => absurd c9 (by decide)) (fun _ => ?_)
      refine lv_iload_n hx hb dX5_takeVersion_72 rfl (lv_at hl 0 rfl) ?_
      exact W.iret (v := nI 2) hx hb hr (fun t ht hW => ⟨⟨nI 2, (w30, lt, sj), rfl, Or.inr ⟨_, 2, (sk tx nt (pa.1 12 + 1)), pa, rfl, by repeat (first | exact rel.refl _ | exact rel.mono (by assumption) (by decide) (by decide) | refine rel.I (by decide) ?_ | refine rel.A (by decide) ?_ | refine rel.trans ?_ (rel.mono (by assumption) (by decide) (by decide))), (vST_n n6 (by rw [hf30]; decide)).trans (by rw [hf30]), e1130, by omega, by omega, rfl⟩, show PP G (mw G h w30 lt sj) t.heap by rw [ht]; exact hP⟩, hS.F ht⟩) hS.2.2 dX5_takeVersion_73
  · skip
    have n6 : (pa.1 15) = 24 := (nI_eq (a := pa.1 15) (b := 24) (by omega) (by omega)).mp c6
    refine lv_aload_n hx hb dX5_takeVersion_9 rfl (lv_at hl 0 rfl) ?_
    refine lv_iconst (v := nI 3) hx hb dX5_takeVersion_10 (by decide) ?_
    refine lv_aload_n hx hb dX5_takeVersion_11 rfl (lv_at hl 0 rfl) ?_
    refine va_get (D := gD G) (ci := 5) (v := .int (u.1 12)) (C := RX5) (T := TX5) (N := 38) hx hb hts hiX5 hown hK hP 0 rfl rfl 12 (by decide) k105 (fun _ h9 => h9) rfl dX5_takeVersion_12 ?_
    refine topE e12 ?_
    refine cXi (As := [.int (nI 3), .int (nI (pa.1 12))]) (rest := []) (S := oS × Int64 × (Nat → Int64)) (wa := mw G h u lt sj) (w1 := fun v => mw G h v.1 v.2.1 v.2.2) ⟨hx, hb, hml, hown, hts⟩ (mt_X5_fails l G h _ u lt sj (nI 3) (nI (pa.1 12))) (cwV 2 hts gX5_takeVersion_X5_fails rfl rfl rfl ⟨rfl, hd_X5_fails⟩ ⟨Nat.le_of_ble_eq_true rfl, Nat.le_of_ble_eq_true rfl⟩) hK hN hP hD hS hA (fun _ => rfl) 0 5 rfl rfl rfl hl.1 rfl (Nat.le_of_ble_eq_true rfl) ⟨Nat.zero_le _, Nat.zero_le _⟩ dX5_takeVersion_15 (fun r15 u15 H locs hw15 hP hD hS => ?_)
    obtain ⟨rfl, rfl⟩ := hw15
    have hP : PP G (mw G h (oI u 11 (nI (pa.1 12))) lt sj) H := hP
    have hD : va_D A (mw G h (oI u 11 (nI (pa.1 12))) lt sj) := hD
    exact W.iret (v := nI 3) hx hb hr (fun t ht hW => ⟨⟨nI 3, (oI u 11 (nI (pa.1 12)), lt, sj), rfl, Or.inr ⟨_, 3, (pa.1 12), pa, rfl, by repeat (first | exact rel.refl _ | exact rel.mono (by assumption) (by decide) (by decide) | refine rel.I (by decide) ?_ | refine rel.A (by decide) ?_ | refine rel.trans ?_ (rel.mono (by assumption) (by decide) (by decide))), vST_3 n6, rfl, by omega, by omega, rfl⟩, show PP G (mw G h (oI u 11 (nI (pa.1 12))) lt sj) t.heap by rw [ht]; exact hP⟩, hS.F ht⟩) hS.2.2 dX5_takeVersion_18
set_option maxHeartbeats 1000000 in
set_option maxRecDepth 100000 in
theorem mt_X5_mayBlock (l : Launch) (G : gG) (h : Nat → Nat) (u : oS) (lt : Int64) (sj : Nat → Int64) (dp : Nat) (vn : Nat) (z1 : Int32) (bk : Nat → Int32) (bi : Nat → Int32) (hdp : u.1 23 = nI dp) (hD240 : dp ≤ 240) (hbk : rwE (u.2 24) bk dp) (hbi : rwE (u.2 25) bi dp) : Met l yX5_mayBlock wsX5_mayBlock ({ frames := 0, cells := 0, slots := 0, locals := 0 }) (preR G (mw G h u lt sj) [.ref (h 0), .int (nI vn), .int z1]) (vp_Si (fun r : Int32 => (r = 1 ∧ mayB bk bi vn (decide (¬ z1 = 0)) dp = true) ∨ (r = 0 ∧ ¬ mayB bk bi vn (decide (¬ z1 = 0)) dp = true))) 0 0 (fun _ => False) := by
  refine Met.ofW (cc := cX5_mayBlock) (maxL := 5) (ret := (some .boolean)) (by decide) rfl ?_
  intro p e s m args below meth c s₁ B hml hv
  obtain ⟨ha, hP, hK, hN⟩ := hv
  subst ha
  have hx := B.exec
  have hb := B.bytes
  have hr := B.returns
  have hts := atoms_spec (ws := wsX5_mayBlock) B.pre
  have hown : s.vm.findClass RX5 = some m.cls := findClass_of_methodNamed B.named
  have hlocks := B.notSynchronized
  have hiX5 : ∀ w ∈ wsX50, w ∈ wsX5_mayBlock := fun w h9 => List.mem_cons_of_mem _ (List.mem_append_right _ (h9))
  have k143 := hts (.fieldLink RX5 143 "WovenHistoryModel" "deep" "I") (List.mem_of_getElem? (i := 1) rfl)
  have k56 := hts (.fieldLink RX5 56 "WovenHistoryModel" "isIn" "[Z") (List.mem_of_getElem? (i := 2) rfl)
  have k53 := hts (.fieldLink RX5 53 "WovenHistoryModel" "blockOf" "[I") (List.mem_of_getElem? (i := 3) rfl)
  have hl := lv_entry ([.ref (h 0), .int (nI vn), .int z1]) (n := 5) (Nat.le_of_ble_eq_true rfl)
  rw [lg_entry_eq]
  generalize (lg_sl ([.ref (h 0), .int (nI vn), .int z1]) ++ List.replicate (5 - (lg_sl ([.ref (h 0), .int (nI vn), .int z1])).length) Slot.unset).toArray = ls at hl ⊢
  have hl : lv_has ls 5 [(0, .ref (h 0)), (1, .int (nI vn)), (2, .int z1)] := hl
  refine lv_iconst (v := nI 1) hx hb dX5_mayBlock_0 (by decide) ?_
  refine lv_istore_n (lv' := [(3, .int (nI 1)), (0, .ref (h 0)), (1, .int (nI vn)), (2, .int z1)]) hx hb dX5_mayBlock_1 rfl hl (by decide) rfl (fun ls hl => ?_)
  refine lv_iconst (v := nI 0) hx hb dX5_mayBlock_2 (by decide) ?_
  refine lv_istore (lv' := [(4, .int (nI 0)), (3, .int (nI 1)), (0, .ref (h 0)), (1, .int (nI vn)), (2, .int z1)]) hx hb dX5_mayBlock_3 hl (by decide) rfl (fun ls hl => ?_)
  have LP5 : ∀ (n5m : Nat), ∀ (k : Nat) (x : Int32) (hk : k ≤ dp) (hx01 : (x = 1 ∧ mayB bk bi vn (decide (¬ z1 = 0)) k = true) ∨ (x = 0 ∧ mayB bk bi vn (decide (¬ z1 = 0)) k = false)), (dp - k < n5m) → ∀ (ls : Array Slot), lv_has ls 5 [(0, .ref (h 0)), (1, .int (nI vn)), (2, .int z1), (3, .int x), (4, .int (nI k))] → W p l e (headSpec wsX5_mayBlock ({ frames := 0, cells := 0, slots := 0, locals := 0 })).room s m ([.ref (h 0), .int (nI vn), .int z1] : List Value).toArray below meth c s.heap [] 0 0 (MQ below (vp_Si (fun r : Int32 => (r = 1 ∧ mayB bk bi vn (decide (¬ z1 = 0)) dp = true) ∨ (r = 0 ∧ ¬ mayB bk bi vn (decide (¬ z1 = 0)) dp = true))) ([.ref (h 0), .int (nI vn), .int z1] : List Value).toArray s 0 0 (fun _ => False)) (F0 m 5 ls []) := by
    intro n5m
    induction n5m with
    | zero => intro k x hk hx01 hmu ls hl; exact absurd hmu (Nat.not_lt_zero _)
    | succ n5m ih5 =>
      intro k x hk hx01 hmu ls hl
      refine lv_iload hx hb dX5_mayBlock_5 (lv_at hl 4 rfl) ?_
      refine lv_aload_n hx hb dX5_mayBlock_7 rfl (lv_at hl 0 rfl) ?_
      refine va_get (D := gD G) (ci := 5) (v := .int (u.1 23)) (C := RX5) (T := TX5) (N := 38) hx hb hts hiX5 hown hK hP 0 rfl rfl 23 (by decide) k143 (fun _ h9 => h9) rfl dX5_mayBlock_8 ?_
      refine topE hdp ?_
      refine lv_icmp_ge (tgt := 69) hx hb dX5_mayBlock_11 (by decide) (fun c11 => ?_) (fun c11 => ?_)
      · skip
        have n11 : dp ≤ k := (nI_leI (a := dp) (b := k) (by omega) (by omega)).mp c11
        refine lv_iload_n hx hb dX5_mayBlock_69 rfl (lv_at hl 3 rfl) ?_
        exact W.zret (v := x) hx hb hr (nar01 (hx01.elim (fun q => Or.inr q.1) (fun q => Or.inl q.1))) (fun t ht hW => ⟨x, rfl, by rw [← (show k = dp by omega)]; exact hx01.imp id (fun q => ⟨q.1, by rw [q.2]; decide⟩), ht⟩) (fun _ h9 => by cases h9) dX5_mayBlock_70
      · skip
        have n11 : ¬ (dp ≤ k) := fun q9 => c11 ((nI_leI (a := dp) (b := k) (by omega) (by omega)).mpr q9)
        refine lv_iload_n hx hb dX5_mayBlock_14 rfl (lv_at hl 3 rfl) ?_
        refine lv_if_eq (tgt := 61) hx hb dX5_mayBlock_15 (by decide) (fun c15 => ?_) (fun c15 => ?_)
        · skip
          refine lv_iconst (v := nI 0) hx hb dX5_mayBlock_61 (by decide) ?_
          refine lv_istore_n (lv' := [(3, .int (nI 0)), (0, .ref (h 0)), (1, .int (nI vn)), (2, .int z1), (4, .int (nI k))]) hx hb dX5_mayBlock_62 rfl hl (by decide) rfl (fun ls hl => ?_)
          refine lv_iinc (v := nI (k + 1)) (lv' := [(4, .int (nI (k + 1))), (3, .int (nI 0)), (0, .ref (h 0)), (1, .int (nI vn)), (2, .int z1)]) hx hb dX5_mayBlock_63 hl (k := 4) rfl (nI_1 k) (by decide) rfl (fun ls hl => ?_)
          refine lv_goto (tgt := 5) hx hb dX5_mayBlock_66 (by decide) ?_
          exact ih5 (k + 1) (nI 0) (by first | assumption | omega) (by have hx9 := hx01; first | exact Or.inl ⟨rfl, by simp_all [mayB]⟩ | exact Or.inr ⟨rfl, by simp_all [mayB]⟩ | (exfalso; simp_all)) (by omega) ls (lv_sub hl [2, 3, 4, 1, 0] rfl)
        · skip
          refine lv_aload_n hx hb dX5_mayBlock_18 rfl (lv_at hl 0 rfl) ?_
          refine va_get (D := gD G) (ci := 5) (v := .ref (h 25)) (C := RX5) (T := TX5) (N := 38) hx hb hts hiX5 hown hK hP 0 rfl rfl 25 (by decide) k56 (fun _ h9 => h9) rfl dX5_mayBlock_19 ?_
          refine lv_iload hx hb dX5_mayBlock_22 (lv_at hl 4 rfl) ?_
          refine zaldN (f := u.2 25) (n := 240) (k := k) hx hb hK hP 15 rfl rfl (by omega) dX5_mayBlock_24 ?_
          refine topE (hbi k (by omega)) ?_
          refine lv_if_eq (tgt := 42) hx hb dX5_mayBlock_25 (by decide) (fun c25 => ?_) (fun c25 => ?_)
          · skip
            refine lv_iload_n hx hb dX5_mayBlock_42 rfl (lv_at hl 2 rfl) ?_
            refine lv_if_ne (tgt := 57) hx hb dX5_mayBlock_43 (by decide) (fun c43 => ?_) (fun c43 => ?_)
            · skip
              refine lv_iconst (v := nI 1) hx hb dX5_mayBlock_57 (by decide) ?_
              refine lv_goto (tgt := 62) hx hb dX5_mayBlock_58 (by decide) ?_
              refine lv_istore_n (lv' := [(3, .int (nI 1)), (0, .ref (h 0)), (1, .int (nI vn)), (2, .int z1), (4, .int (nI k))]) hx hb dX5_mayBlock_62 rfl hl (by decide) rfl (fun ls hl => ?_)
              refine lv_iinc (v := nI (k + 1)) (lv' := [(4, .int (nI (k + 1))), (3, .int (nI 1)), (0, .ref (h 0)), (1, .int (nI vn)), (2, .int z1)]) hx hb dX5_mayBlock_63 hl (k := 4) rfl (nI_1 k) (by decide) rfl (fun ls hl => ?_)
              refine lv_goto (tgt := 5) hx hb dX5_mayBlock_66 (by decide) ?_
              exact ih5 (k + 1) (nI 1) (by first | assumption | omega) (by have hx9 := hx01; first | exact Or.inl ⟨rfl, by simp_all [mayB]⟩ | exact Or.inr ⟨rfl, by simp_all [mayB]⟩ | (exfalso; simp_all)) (by omega) ls (lv_sub hl [2, 3, 4, 1, 0] rfl)
            · skip
              refine lv_iload_n hx hb dX5_mayBlock_46 rfl (lv_at hl 1 rfl) ?_
              refine lv_aload_n hx hb dX5_mayBlock_47 rfl (lv_at hl 0 rfl) ?_
              refine va_get (D := gD G) (ci := 5) (v := .ref (h 24)) (C := RX5) (T := TX5) (N := 38) hx hb hts hiX5 hown hK hP 0 rfl rfl 24 (by decide) k53 (fun _ h9 => h9) rfl dX5_mayBlock_48 ?_
              refine lv_iload hx hb dX5_mayBlock_51 (lv_at hl 4 rfl) ?_
              refine ialdN (f := u.2 24) (n := 240) (k := k) hx hb hK hP 14 rfl rfl (by omega) dX5_mayBlock_53 ?_
              refine topE (hbk k (by omega)) ?_
              refine lv_icmp_eq (tgt := 61) hx hb dX5_mayBlock_54 (by decide) (fun c54 => ?_) (fun c54 => ?_)
              · skip
                refine lv_iconst (v := nI 0) hx hb dX5_mayBlock_61 (by decide) ?_
                refine lv_istore_n (lv' := [(3, .int (nI 0)), (0, .ref (h 0)), (1, .int (nI vn)), (2, .int z1), (4, .int (nI k))]) hx hb dX5_mayBlock_62 rfl hl (by decide) rfl (fun ls hl => ?_)
                refine lv_iinc (v := nI (k + 1)) (lv' := [(4, .int (nI (k + 1))), (3, .int (nI 0)), (0, .ref (h 0)), (1, .int (nI vn)), (2, .int z1)]) hx hb dX5_mayBlock_63 hl (k := 4) rfl (nI_1 k) (by decide) rfl (fun ls hl => ?_)
                refine lv_goto (tgt := 5) hx hb dX5_mayBlock_66 (by decide) ?_
                exact ih5 (k + 1) (nI 0) (by first | assumption | omega) (by have hx9 := hx01; first | exact Or.inl ⟨rfl, by simp_all [mayB]⟩ | exact Or.inr ⟨rfl, by simp_all [mayB]⟩ | (exfalso; simp_all)) (by omega) ls (lv_sub hl [2, 3, 4, 1, 0] rfl)
              · skip
                refine lv_iconst (v := nI 1) hx hb dX5_mayBlock_57 (by decide) ?_
                refine lv_goto (tgt := 62) hx hb dX5_mayBlock_58 (by decide) ?_
                refine lv_istore_n (lv' := [(3, .int (nI 1)), (0, .ref (h 0)), (1, .int (nI vn)), (2, .int z1), (4, .int (nI k))]) hx hb dX5_mayBlock_62 rfl hl (by decide) rfl (fun ls hl => ?_)
                refine lv_iinc (v := nI (k + 1)) (lv' := [(4, .int (nI (k + 1))), (3, .int (nI 1)), (0, .ref (h 0)), (1, .int (nI vn)), (2, .int z1)]) hx hb dX5_mayBlock_63 hl (k := 4) rfl (nI_1 k) (by decide) rfl (fun ls hl => ?_)
                refine lv_goto (tgt := 5) hx hb dX5_mayBlock_66 (by decide) ?_
                exact ih5 (k + 1) (nI 1) (by first | assumption | omega) (by have hx9 := hx01; first | exact Or.inl ⟨rfl, by simp_all [mayB]⟩ | exact Or.inr ⟨rfl, by simp_all [mayB]⟩ | (exfalso; simp_all)) (by omega) ls (lv_sub hl [2, 3, 4, 1, 0] rfl)
          · skip
            refine lv_iload_n hx hb dX5_mayBlock_28 rfl (lv_at hl 1 rfl) ?_
            refine lv_aload_n hx hb dX5_mayBlock_29 rfl (lv_at hl 0 rfl) ?_
            refine va_get (D := gD G) (ci := 5) (v := .ref (h 24)) (C := RX5) (T := TX5) (N := 38) hx hb hts hiX5 hown hK hP 0 rfl rfl 24 (by decide) k53 (fun _ h9 => h9) rfl dX5_mayBlock_30 ?_
            refine lv_iload hx hb dX5_mayBlock_33 (lv_at hl 4 rfl) ?_
            refine ialdN (f := u.2 24) (n := 240) (k := k) hx hb hK hP 14 rfl rfl (by omega) dX5_mayBlock_35 ?_
            refine topE (hbk k (by omega)) ?_
            refine lv_icmp_le (tgt := 61) hx hb dX5_mayBlock_36 (by decide) (fun c36 => ?_) (fun c36 => ?_)
            · skip
              refine lv_iconst (v := nI 0) hx hb dX5_mayBlock_61 (by decide) ?_
              refine lv_istore_n (lv' := [(3, .int (nI 0)), (0, .ref (h 0)), (1, .int (nI vn)), (2, .int z1), (4, .int (nI k))]) hx hb dX5_mayBlock_62 rfl hl (by decide) rfl (fun ls hl => ?_)
              refine lv_iinc (v := nI (k + 1)) (lv' := [(4, .int (nI (k + 1))), (3, .int (nI 0)), (0, .ref (h 0)), (1, .int (nI vn)), (2, .int z1)]) hx hb dX5_mayBlock_63 hl (k := 4) rfl (nI_1 k) (by decide) rfl (fun ls hl => ?_)
              refine lv_goto (tgt := 5) hx hb dX5_mayBlock_66 (by decide) ?_
              exact ih5 (k + 1) (nI 0) (by first | assumption | omega) (by have hx9 := hx01; first | exact Or.inl ⟨rfl, by simp_all [mayB]⟩ | exact Or.inr ⟨rfl, by simp_all [mayB]⟩ | (exfalso; simp_all)) (by omega) ls (lv_sub hl [2, 3, 4, 1, 0] rfl)
            · skip
              refine lv_goto (tgt := 57) hx hb dX5_mayBlock_39 (by decide) ?_
              refine lv_iconst (v := nI 1) hx hb dX5_mayBlock_57 (by decide) ?_
              refine lv_goto (tgt := 62) hx hb dX5_mayBlock_58 (by decide) ?_
              refine lv_istore_n (lv' := [(3, .int (nI 1)), (0, .ref (h 0)), (1, .int (nI vn)), (2, .int z1), (4, .int (nI k))]) hx hb dX5_mayBlock_62 rfl hl (by decide) rfl (fun ls hl => ?_)
              refine lv_iinc (v := nI (k + 1)) (lv' := [(4, .int (nI (k + 1))), (3, .int (nI 1)), (0, .ref (h 0)), (1, .int (nI vn)), (2, .int z1)]) hx hb dX5_mayBlock_63 hl (k := 4) rfl (nI_1 k) (by decide) rfl (fun ls hl => ?_)
              refine lv_goto (tgt := 5) hx hb dX5_mayBlock_66 (by decide) ?_
              exact ih5 (k + 1) (nI 1) (by first | assumption | omega) (by have hx9 := hx01; first | exact Or.inl ⟨rfl, by simp_all [mayB]⟩ | exact Or.inr ⟨rfl, by simp_all [mayB]⟩ | (exfalso; simp_all)) (by omega) ls (lv_sub hl [2, 3, 4, 1, 0] rfl)
  exact LP5 (dp - 0 + 1) 0 (nI 1) (by first | assumption | omega) (Or.inl ⟨rfl, rfl⟩) (Nat.lt_succ_self _) ls (lv_sub hl [2, 3, 4, 1, 0] rfl)
set_option maxHeartbeats 1000000 in
set_option maxRecDepth 100000 in
theorem mt_X5_takeBlock (l : Launch) (G : gG) (h : Nat → Nat) (sz : Nat) (u : oS) (lt : Int64) (sj : Nat → Int64) (nt : Nat) (tx : Nat → Int32) (pa : pS) (z : Int32) (hnt : u.1 10 = nI nt) (q240h : nt ≤ 240) (hs : RSm u nt pa) (htx : u.2 9 = tx) (hAl : pa.1 12 < nt) (hz : z = 0 ∨ z = 1) : Met l yX5_takeBlock wsX5_takeBlock ({ frames := 3, cells := 0, slots := 0, locals := 67 }) (preW G (mw G h u lt sj) sz [.ref (h 0), .int z]) (va_Qi (fun (r : Int32) (v : oS × Int64 × (Nat → Int64)) => (∃ w s2, v = (w, lt, sj) ∧ rdW u w ∧ bST tx nt (decide (¬ z = 0)) pa = (0, 0, s2) ∧ RSm w nt s2 ∧ pa.1 12 < s2.1 12 ∧ w.1 11 = u.1 11 ∧ r = nI 0) ∨ (∃ w f p s2, v = (w, lt, sj) ∧ rdW u w ∧ bST tx nt (decide (¬ z = 0)) pa = (f, p, s2) ∧ w.1 11 = nI p ∧ 0 < f ∧ f ≤ 4 ∧ r = nI f)) (fun v t => PP G (mw G h v.1 v.2.1 v.2.2) t.heap) (va_A (mw G h u lt sj) sz)) 0 0 (va_A (mw G h u lt sj) sz) := by
  refine Met.ofW (cc := cX5_takeBlock) (maxL := 3) (ret := (some .int)) (by decide) rfl ?_
  intro p e s m args below meth c s₁ B hml hv
  obtain ⟨ha, hsz, hP, hK, hN, hD0⟩ := hv
  subst ha
  have hx := B.exec
  have hb := B.bytes
  have hr := B.returns
  have hts := atoms_spec (ws := wsX5_takeBlock) B.pre
  have hown : s.vm.findClass RX5 = some m.cls := findClass_of_methodNamed B.named
  have hlocks := B.notSynchronized
  subst hsz
  have hD := hD0.self (sz := s.heap.size)
  generalize hAe : va_A (mw G h u lt sj) s.heap.size = A at hD ⊢
  have hA : ∀ q : Nat, s.heap.size ≤ q → A q := fun q h => by rw [← hAe]; exact Or.inr h
  clear hAe hD0
  have hS : va_S A s.heap s.heap [] := va_S.rf
  have hiX5 : ∀ w ∈ wsX50, w ∈ wsX5_takeBlock := fun w h9 => List.mem_cons_of_mem _ (List.mem_append_right _ (h9))
  have k105 := hts (.fieldLink RX5 105 "WovenHistoryModel" "at0" "I") (List.mem_of_getElem? (i := 1) rfl)
  have k123 := hts (.fieldLink RX5 123 "WovenHistoryModel" "number" "I") (List.mem_of_getElem? (i := 2) rfl)
  have k120 := hts (.fieldLink RX5 120 "WovenHistoryModel" "numberAt" "I") (List.mem_of_getElem? (i := 3) rfl)
  have k53 := hts (.fieldLink RX5 53 "WovenHistoryModel" "blockOf" "[I") (List.mem_of_getElem? (i := 4) rfl)
  have k143 := hts (.fieldLink RX5 143 "WovenHistoryModel" "deep" "I") (List.mem_of_getElem? (i := 5) rfl)
  have k56 := hts (.fieldLink RX5 56 "WovenHistoryModel" "isIn" "[Z") (List.mem_of_getElem? (i := 6) rfl)
  have hl := lv_entry ([.ref (h 0), .int z]) (n := 3) (Nat.le_of_ble_eq_true rfl)
  rw [lg_entry_eq]
  generalize (lg_sl ([.ref (h 0), .int z]) ++ List.replicate (3 - (lg_sl ([.ref (h 0), .int z])).length) Slot.unset).toArray = ls at hl ⊢
  have hl : lv_has ls 3 [(0, .ref (h 0)), (1, .int z)] := hl
  obtain ⟨e10, e12, e15, e19, e23, ⟨q240, qa, qv, ql, qd, qpar⟩, hrw⟩ := id hs
  refine lv_aload_n hx hb dX5_takeBlock_0 rfl (lv_at hl 0 rfl) ?_
  refine lv_dup hx hb dX5_takeBlock_1 rfl ?_
  refine va_get (D := gD G) (ci := 5) (v := .int (u.1 12)) (C := RX5) (T := TX5) (N := 38) hx hb hts hiX5 hown hK hP 0 rfl rfl 12 (by decide) k105 (fun _ h9 => h9) rfl dX5_takeBlock_2 ?_
  refine topE e12 ?_
  refine lv_iconst (v := nI 1) hx hb dX5_takeBlock_5 (by decide) ?_
  refine lv_iadd hx hb dX5_takeBlock_6 ?_
  refine topE (y := nI ((pa.1 12) + 1)) (nI_add (pa.1 12) 1) ?_
  refine va_put (D := gD G) (ci := 5) (v := .int (nI ((pa.1 12) + 1))) (ty := .int) (C := RX5) (T := TX5) (N := 38) hx hb hts hiX5 tyX5 tyX5_ok nmX5 hown hK hP hD hS 0 rfl rfl 12 (by decide) k105 (fun _ h9 => h9) rfl (tyX5_ok 12 (by decide)) (rfl) (rfl) (Nat.le_of_ble_eq_true rfl) dX5_takeBlock_7 (fun H locs hP hD hS => ?_)
  have hP : PP G (mw G h (oI u 12 (nI ((pa.1 12) + 1))) lt sj) H := hP
  have hD : va_D A (mw G h (oI u 12 (nI ((pa.1 12) + 1))) lt sj) := hD
  refine lv_aload_n hx hb dX5_takeBlock_10 rfl (lv_at hl 0 rfl) ?_
  refine cXi (As := []) (rest := []) (S := oS × Int64 × (Nat → Int64)) (wa := mw G h (oI u 12 (nI ((pa.1 12) + 1))) lt sj) (w1 := fun v => mw G h v.1 v.2.1 v.2.2) ⟨hx, hb, hml, hown, hts⟩ (mt_X5_takeVersionNumber l G h _ (oI u 12 (nI ((pa.1 12) + 1))) lt sj nt ((pa.1 12) + 1) (pa.1 15) tx (hnt) (rfl) (e15) (by first | assumption | omega) (by first | assumption | omega) (by first | assumption | omega) (htx)) (cwV 0 hts gX5_takeBlock_X5_takeVersionNumber rfl rfl rfl ⟨rfl, hd_X5_takeVersionNumber⟩ ⟨Nat.le_of_ble_eq_true rfl, Nat.le_of_ble_eq_true rfl⟩) hK hN hP hD hS hA (fun _ => rfl) 0 5 rfl rfl rfl hl.1 rfl (Nat.le_of_ble_eq_true rfl) ⟨Nat.zero_le _, Nat.zero_le _⟩ dX5_takeBlock_11 (fun r11 u11 H locs hw11 hP hD hS => ?_)
  rcases hw11 with ⟨w11, rfl, hR11, hb11, en11, e1411, e1111, hf11, rfl⟩ | ⟨w11, rfl, hR11, hb11, e1111, hf11, rfl⟩ | ⟨w11, rfl, hR11, hb11, e1111, hf11, rfl⟩
  · skip
    have hP : PP G (mw G h w11 lt sj) H := hP
    have hD : va_D A (mw G h w11 lt sj) := hD
    have htx11 : w11.2 9 = tx := (hR11.2 9 (by decide)).trans (htx)
    have hEg11 : ((pa.1 12) + 1) ≤ nE tx nt ((pa.1 12) + 1) := nE_ge _ _ _
    have hEl11 : nE tx nt ((pa.1 12) + 1) ≤ nt := nE_le (by omega)
    have hV11 := (vF_ok hf11).2
    refine lv_istore_n (lv' := [(2, .int (nI 0)), (0, .ref (h 0)), (1, .int z)]) hx hb dX5_takeBlock_14 rfl hl (by decide) rfl (fun ls hl => ?_)
    refine lv_iload_n hx hb dX5_takeBlock_15 rfl (lv_at hl 0 rfl) ?_
    refine lv_if_ne (tgt := 41) hx hb dX5_takeBlock_16 (by decide) (fun c9 => absurd (by decide) c9) (fun _ => ?_)
    refine lv_aload_n hx hb dX5_takeBlock_19 rfl (lv_at hl 1 rfl) ?_
    refine lv_aload_n hx hb dX5_takeBlock_20 rfl (lv_at hl 1 rfl) ?_
    refine va_get (D := gD G) (ci := 5) (v := .int (w11.1 13)) (C := RX5) (T := TX5) (N := 38) hx hb hts hiX5 hown hK hP 0 rfl rfl 13 (by decide) k123 (fun _ h9 => h9) rfl dX5_takeBlock_21 ?_
    refine topE en11 ?_
    refine lv_iload_n hx hb dX5_takeBlock_24 rfl (lv_at hl 2 rfl) ?_
    refine cRi (w := mw G h w11 lt sj) (As := [.int (nI (nV tx nt ((pa.1 12) + 1))), .int z]) (rest := []) ⟨hx, hb, hml, hown, hts⟩ (mt_X5_mayBlock l G h w11 lt sj (pa.1 23) (nV tx nt ((pa.1 12) + 1)) z (pa.2 24) (pa.2 25) ((hR11.1 23 (by decide)).trans (e23)) (by first | assumption | omega) (by rw [hR11.2 24 (by decide)]; exact hrw.2.2.2.2.2.2.1) (by rw [hR11.2 25 (by decide)]; exact hrw.2.2.2.2.2.2.2)) (cwV 2 hts gX5_takeBlock_X5_mayBlock rfl rfl rfl ⟨rfl, hd_X5_mayBlock⟩ ⟨Nat.le_of_ble_eq_true rfl, Nat.le_of_ble_eq_true rfl⟩) hK hN hP 0 5 rfl rfl rfl hl.1 rfl (Nat.le_of_ble_eq_true rfl) ⟨Nat.zero_le _, Nat.zero_le _⟩ dX5_takeBlock_25 (fun r25 hw25 => ?_)
    rcases hw25 with ⟨rfl, hy25⟩ | ⟨rfl, hn25⟩
    · skip
      refine lv_if_ne (tgt := 41) hx hb dX5_takeBlock_28 (by decide) (fun _ => ?_) (fun c9 => absurd c9 (by decide))
      refine lv_iload_n hx hb dX5_takeBlock_41 rfl (lv_at hl 0 rfl) ?_
      refine lv_if_le (tgt := 47) hx hb dX5_takeBlock_42 (by decide) (fun _ => ?_) (fun c9 => absurd (by decide) c9)
      refine lv_aload_n hx hb dX5_takeBlock_47 rfl (lv_at hl 1 rfl) ?_
      refine va_get (D := gD G) (ci := 5) (v := .ref (h 24)) (C := RX5) (T := TX5) (N := 38) hx hb hts hiX5 hown hK hP 0 rfl rfl 24 (by decide) k53 (fun _ h9 => h9) rfl dX5_takeBlock_48 ?_
      refine lv_aload_n hx hb dX5_takeBlock_51 rfl (lv_at hl 1 rfl) ?_
      refine va_get (D := gD G) (ci := 5) (v := .int (w11.1 23)) (C := RX5) (T := TX5) (N := 38) hx hb hts hiX5 hown hK hP 0 rfl rfl 23 (by decide) k143 (fun _ h9 => h9) rfl dX5_takeBlock_52 ?_
      refine topE ((hR11.1 23 (by decide)).trans (e23)) ?_
      refine lv_aload_n hx hb dX5_takeBlock_55 rfl (lv_at hl 1 rfl) ?_
      refine va_get (D := gD G) (ci := 5) (v := .int (w11.1 13)) (C := RX5) (T := TX5) (N := 38) hx hb hts hiX5 hown hK hP 0 rfl rfl 13 (by decide) k123 (fun _ h9 => h9) rfl dX5_takeBlock_56 ?_
      refine topE en11 ?_
      refine iastN (f := w11.2 24) (n := 240) (k := pa.1 23) hx hb hK hP hD hS 14 rfl rfl (by omega) dX5_takeBlock_59 (fun H locs hP hD hS => ?_)
      have hP : PP G (mw G h (oA w11 24 (upd (w11.2 24) (pa.1 23) (nI (nV tx nt ((pa.1 12) + 1))))) lt sj) H := hP
      have hD : va_D A (mw G h (oA w11 24 (upd (w11.2 24) (pa.1 23) (nI (nV tx nt ((pa.1 12) + 1))))) lt sj) := hD
      refine lv_aload_n hx hb dX5_takeBlock_60 rfl (lv_at hl 1 rfl) ?_
      refine va_get (D := gD G) (ci := 5) (v := .ref (h 25)) (C := RX5) (T := TX5) (N := 38) hx hb hts hiX5 hown hK hP 0 rfl rfl 25 (by decide) k56 (fun _ h9 => h9) rfl dX5_takeBlock_61 ?_
      refine lv_aload_n hx hb dX5_takeBlock_64 rfl (lv_at hl 1 rfl) ?_
      refine va_get (D := gD G) (ci := 5) (v := .int ((oA w11 24 (upd (w11.2 24) (pa.1 23) (nI (nV tx nt ((pa.1 12) + 1))))).1 23)) (C := RX5) (T := TX5) (N := 38) hx hb hts hiX5 hown hK hP 0 rfl rfl 23 (by decide) k143 (fun _ h9 => h9) rfl dX5_takeBlock_65 ?_
      refine topE ((hR11.1 23 (by decide)).trans (e23)) ?_
      refine lv_iload_n hx hb dX5_takeBlock_68 rfl (lv_at hl 2 rfl) ?_
      refine zastN (f := (oA w11 24 (upd (w11.2 24) (pa.1 23) (nI (nV tx nt ((pa.1 12) + 1))))).2 25) (n := 240) (k := pa.1 23) hx hb hK hP hD hS 15 rfl rfl (by omega) (by assumption) dX5_takeBlock_69 (fun H locs hP hD hS => ?_)
      have hP : PP G (mw G h (oA (oA w11 24 (upd (w11.2 24) (pa.1 23) (nI (nV tx nt ((pa.1 12) + 1))))) 25 (upd ((oA w11 24 (upd (w11.2 24) (pa.1 23) (nI (nV tx nt ((pa.1 12) + 1))))).2 25) (pa.1 23) z)) lt sj) H := hP
      have hD : va_D A (mw G h (oA (oA w11 24 (upd (w11.2 24) (pa.1 23) (nI (nV tx nt ((pa.1 12) + 1))))) 25 (upd ((oA w11 24 (upd (w11.2 24) (pa.1 23) (nI (nV tx nt ((pa.1 12) + 1))))).2 25) (pa.1 23) z)) lt sj) := hD
      refine lv_aload_n hx hb dX5_takeBlock_70 rfl (lv_at hl 1 rfl) ?_
      refine cXi (As := []) (rest := []) (S := oS × Int64 × (Nat → Int64)) (wa := mw G h (oA (oA w11 24 (upd (w11.2 24) (pa.1 23) (nI (nV tx nt ((pa.1 12) + 1))))) 25 (upd ((oA w11 24 (upd (w11.2 24) (pa.1 23) (nI (nV tx nt ((pa.1 12) + 1))))).2 25) (pa.1 23) z)) lt sj) (w1 := fun v => mw G h v.1 v.2.1 v.2.2) ⟨hx, hb, hml, hown, hts⟩ (mt_X5_here l G h _ (oA (oA w11 24 (upd (w11.2 24) (pa.1 23) (nI (nV tx nt ((pa.1 12) + 1))))) 25 (upd ((oA w11 24 (upd (w11.2 24) (pa.1 23) (nI (nV tx nt ((pa.1 12) + 1))))).2 25) (pa.1 23) z)) lt sj nt (nE tx nt ((pa.1 12) + 1)) tx ((hR11.1 10 (by decide)).trans (hnt)) (hb11) (by first | assumption | omega) (by first | assumption | omega) (htx11)) (cwV 0 hts gX5_takeBlock_X5_here rfl rfl rfl ⟨rfl, hd_X5_here⟩ ⟨Nat.le_of_ble_eq_true rfl, Nat.le_of_ble_eq_true rfl⟩) hK hN hP hD hS hA (fun _ => rfl) 0 5 rfl rfl rfl hl.1 rfl (Nat.le_of_ble_eq_true rfl) ⟨Nat.zero_le _, Nat.zero_le _⟩ dX5_takeBlock_71 (fun r71 u71 H locs hw71 hP hD hS => ?_)
      obtain ⟨rfl, rfl⟩ := hw71
      have hP : PP G (mw G h (oI (oA (oA w11 24 (upd (w11.2 24) (pa.1 23) (nI (nV tx nt ((pa.1 12) + 1))))) 25 (upd ((oA w11 24 (upd (w11.2 24) (pa.1 23) (nI (nV tx nt ((pa.1 12) + 1))))).2 25) (pa.1 23) z)) 12 (nI (sk tx nt (nE tx nt ((pa.1 12) + 1))))) lt sj) H := hP
      have hD : va_D A (mw G h (oI (oA (oA w11 24 (upd (w11.2 24) (pa.1 23) (nI (nV tx nt ((pa.1 12) + 1))))) 25 (upd ((oA w11 24 (upd (w11.2 24) (pa.1 23) (nI (nV tx nt ((pa.1 12) + 1))))).2 25) (pa.1 23) z)) 12 (nI (sk tx nt (nE tx nt ((pa.1 12) + 1))))) lt sj) := hD
      have hge71 : (nE tx nt ((pa.1 12) + 1)) ≤ sk tx nt (nE tx nt ((pa.1 12) + 1)) := rn_ge _
      have hle71 : sk tx nt (nE tx nt ((pa.1 12) + 1)) ≤ nt := rn_le (by omega)
      refine lv_bipush (v := nI 40) hx hb dX5_takeBlock_74 (by decide) ?_
      refine lv_icmp_eq (tgt := 89) hx hb dX5_takeBlock_76 (by decide) (fun c76 => ?_) (fun c76 => ?_)
      · skip
        have hlt76 := hd_c c76 (by decide)
        refine lv_aload_n hx hb dX5_takeBlock_89 rfl (lv_at hl 1 rfl) ?_
        refine lv_dup hx hb dX5_takeBlock_90 rfl ?_
        refine va_get (D := gD G) (ci := 5) (v := .int (nI (sk tx nt (nE tx nt ((pa.1 12) + 1))))) (C := RX5) (T := TX5) (N := 38) hx hb hts hiX5 hown hK hP 0 rfl rfl 12 (by decide) k105 (fun _ h9 => h9) rfl dX5_takeBlock_91 ?_
        refine lv_iconst (v := nI 1) hx hb dX5_takeBlock_94 (by decide) ?_
        refine lv_iadd hx hb dX5_takeBlock_95 ?_
        refine topE (y := nI ((sk tx nt (nE tx nt ((pa.1 12) + 1))) + 1)) (nI_add (sk tx nt (nE tx nt ((pa.1 12) + 1))) 1) ?_
        refine va_put (D := gD G) (ci := 5) (v := .int (nI ((sk tx nt (nE tx nt ((pa.1 12) + 1))) + 1))) (ty := .int) (C := RX5) (T := TX5) (N := 38) hx hb hts hiX5 tyX5 tyX5_ok nmX5 hown hK hP hD hS 0 rfl rfl 12 (by decide) k105 (fun _ h9 => h9) rfl (tyX5_ok 12 (by decide)) (rfl) (rfl) (Nat.le_of_ble_eq_true rfl) dX5_takeBlock_96 (fun H locs hP hD hS => ?_)
        have hP : PP G (mw G h (oI (oI (oA (oA w11 24 (upd (w11.2 24) (pa.1 23) (nI (nV tx nt ((pa.1 12) + 1))))) 25 (upd ((oA w11 24 (upd (w11.2 24) (pa.1 23) (nI (nV tx nt ((pa.1 12) + 1))))).2 25) (pa.1 23) z)) 12 (nI (sk tx nt (nE tx nt ((pa.1 12) + 1))))) 12 (nI ((sk tx nt (nE tx nt ((pa.1 12) + 1))) + 1))) lt sj) H := hP
        have hD : va_D A (mw G h (oI (oI (oA (oA w11 24 (upd (w11.2 24) (pa.1 23) (nI (nV tx nt ((pa.1 12) + 1))))) 25 (upd ((oA w11 24 (upd (w11.2 24) (pa.1 23) (nI (nV tx nt ((pa.1 12) + 1))))).2 25) (pa.1 23) z)) 12 (nI (sk tx nt (nE tx nt ((pa.1 12) + 1))))) 12 (nI ((sk tx nt (nE tx nt ((pa.1 12) + 1))) + 1))) lt sj) := hD
        refine lv_aload_n hx hb dX5_takeBlock_99 rfl (lv_at hl 1 rfl) ?_
        refine lv_dup hx hb dX5_takeBlock_100 rfl ?_
        refine va_get (D := gD G) (ci := 5) (v := .int ((oI (oI (oA (oA w11 24 (upd (w11.2 24) (pa.1 23) (nI (nV tx nt ((pa.1 12) + 1))))) 25 (upd ((oA w11 24 (upd (w11.2 24) (pa.1 23) (nI (nV tx nt ((pa.1 12) + 1))))).2 25) (pa.1 23) z)) 12 (nI (sk tx nt (nE tx nt ((pa.1 12) + 1))))) 12 (nI ((sk tx nt (nE tx nt ((pa.1 12) + 1))) + 1))).1 23)) (C := RX5) (T := TX5) (N := 38) hx hb hts hiX5 hown hK hP 0 rfl rfl 23 (by decide) k143 (fun _ h9 => h9) rfl dX5_takeBlock_101 ?_
        refine topE ((hR11.1 23 (by decide)).trans (e23)) ?_
        refine lv_iconst (v := nI 1) hx hb dX5_takeBlock_104 (by decide) ?_
        refine lv_iadd hx hb dX5_takeBlock_105 ?_
        refine topE (y := nI ((pa.1 23) + 1)) (nI_add (pa.1 23) 1) ?_
        refine va_put (D := gD G) (ci := 5) (v := .int (nI ((pa.1 23) + 1))) (ty := .int) (C := RX5) (T := TX5) (N := 38) hx hb hts hiX5 tyX5 tyX5_ok nmX5 hown hK hP hD hS 0 rfl rfl 23 (by decide) k143 (fun _ h9 => h9) rfl (tyX5_ok 23 (by decide)) (rfl) (rfl) (Nat.le_of_ble_eq_true rfl) dX5_takeBlock_106 (fun H locs hP hD hS => ?_)
        have hP : PP G (mw G h (oI (oI (oI (oA (oA w11 24 (upd (w11.2 24) (pa.1 23) (nI (nV tx nt ((pa.1 12) + 1))))) 25 (upd ((oA w11 24 (upd (w11.2 24) (pa.1 23) (nI (nV tx nt ((pa.1 12) + 1))))).2 25) (pa.1 23) z)) 12 (nI (sk tx nt (nE tx nt ((pa.1 12) + 1))))) 12 (nI ((sk tx nt (nE tx nt ((pa.1 12) + 1))) + 1))) 23 (nI ((pa.1 23) + 1))) lt sj) H := hP
        have hD : va_D A (mw G h (oI (oI (oI (oA (oA w11 24 (upd (w11.2 24) (pa.1 23) (nI (nV tx nt ((pa.1 12) + 1))))) 25 (upd ((oA w11 24 (upd (w11.2 24) (pa.1 23) (nI (nV tx nt ((pa.1 12) + 1))))).2 25) (pa.1 23) z)) 12 (nI (sk tx nt (nE tx nt ((pa.1 12) + 1))))) 12 (nI ((sk tx nt (nE tx nt ((pa.1 12) + 1))) + 1))) 23 (nI ((pa.1 23) + 1))) lt sj) := hD
        refine lv_iconst (v := nI 0) hx hb dX5_takeBlock_109 (by decide) ?_
        exact W.iret (v := nI 0) hx hb hr (fun t ht hW => ⟨⟨nI 0, (oI (oI (oI (oA (oA w11 24 (upd (w11.2 24) (pa.1 23) (nI (nV tx nt ((pa.1 12) + 1))))) 25 (upd ((oA w11 24 (upd (w11.2 24) (pa.1 23) (nI (nV tx nt ((pa.1 12) + 1))))).2 25) (pa.1 23) z)) 12 (nI (sk tx nt (nE tx nt ((pa.1 12) + 1))))) 12 (nI ((sk tx nt (nE tx nt ((pa.1 12) + 1))) + 1))) 23 (nI ((pa.1 23) + 1)), lt, sj), rfl, by
                                        have HQ : bST tx nt (decide (¬ z = 0)) pa = (0, 0, bOK tx nt (decide (¬ z = 0)) pa (pa.1 12 + 1)) := bST_0 hf11 hy25 c76
                                        exact Or.inl ⟨_, bOK tx nt (decide (¬ z = 0)) pa (pa.1 12 + 1), rfl, by repeat (first | exact rel.refl _ | exact rel.mono (by assumption) (by decide) (by decide) | refine rel.I (by decide) ?_ | refine rel.A (by decide) ?_ | refine rel.trans ?_ (rel.mono (by assumption) (by decide) (by decide))), HQ, ⟨(hR11.1 10 (by decide)).trans (hnt), rfl, (hR11.1 15 (by decide)).trans (e15), (hR11.1 19 (by decide)).trans (e19), rfl, ⟨q240, (show (sk tx nt (nE tx nt ((pa.1 12) + 1))) + 1 ≤ nt by omega), (show pa.1 15 ≤ 24 by omega), (show pa.1 19 ≤ 120 by omega), (show (pa.1 23) + 1 ≤ (sk tx nt (nE tx nt ((pa.1 12) + 1))) + 1 by omega), qpar⟩, RwM_b (q := z) hrw (z01_if hz) (by show upd (w11.2 24) _ _ = _; rw [hR11.2 24 (by decide)]; rfl) (by show upd (w11.2 25) _ _ = _; rw [hR11.2 25 (by decide)]; rfl) (hR11.2 16 (by decide)) (hR11.2 17 (by decide)) (hR11.2 18 (by decide)) (hR11.2 20 (by decide)) (hR11.2 21 (by decide)) (hR11.2 22 (by decide))⟩, (show pa.1 12 < (sk tx nt (nE tx nt ((pa.1 12) + 1))) + 1 by omega), e1111, rfl⟩, show PP G (mw G h (oI (oI (oI (oA (oA w11 24 (upd (w11.2 24) (pa.1 23) (nI (nV tx nt ((pa.1 12) + 1))))) 25 (upd ((oA w11 24 (upd (w11.2 24) (pa.1 23) (nI (nV tx nt ((pa.1 12) + 1))))).2 25) (pa.1 23) z)) 12 (nI (sk tx nt (nE tx nt ((pa.1 12) + 1))))) 12 (nI ((sk tx nt (nE tx nt ((pa.1 12) + 1))) + 1))) 23 (nI ((pa.1 23) + 1))) lt sj) t.heap by rw [ht]; exact hP⟩, hS.F ht⟩) hS.2.2 dX5_takeBlock_110
      · skip
        refine lv_aload_n hx hb dX5_takeBlock_79 rfl (lv_at hl 1 rfl) ?_
        refine lv_iconst (v := nI 1) hx hb dX5_takeBlock_80 (by decide) ?_
        refine lv_aload_n hx hb dX5_takeBlock_81 rfl (lv_at hl 1 rfl) ?_
        refine va_get (D := gD G) (ci := 5) (v := .int (nI (sk tx nt (nE tx nt ((pa.1 12) + 1))))) (C := RX5) (T := TX5) (N := 38) hx hb hts hiX5 hown hK hP 0 rfl rfl 12 (by decide) k105 (fun _ h9 => h9) rfl dX5_takeBlock_82 ?_
        refine cXi (As := [.int (nI 1), .int (nI (sk tx nt (nE tx nt ((pa.1 12) + 1))))]) (rest := []) (S := oS × Int64 × (Nat → Int64)) (wa := mw G h (oI (oA (oA w11 24 (upd (w11.2 24) (pa.1 23) (nI (nV tx nt ((pa.1 12) + 1))))) 25 (upd ((oA w11 24 (upd (w11.2 24) (pa.1 23) (nI (nV tx nt ((pa.1 12) + 1))))).2 25) (pa.1 23) z)) 12 (nI (sk tx nt (nE tx nt ((pa.1 12) + 1))))) lt sj) (w1 := fun v => mw G h v.1 v.2.1 v.2.2) ⟨hx, hb, hml, hown, hts⟩ (mt_X5_fails l G h _ (oI (oA (oA w11 24 (upd (w11.2 24) (pa.1 23) (nI (nV tx nt ((pa.1 12) + 1))))) 25 (upd ((oA w11 24 (upd (w11.2 24) (pa.1 23) (nI (nV tx nt ((pa.1 12) + 1))))).2 25) (pa.1 23) z)) 12 (nI (sk tx nt (nE tx nt ((pa.1 12) + 1))))) lt sj (nI 1) (nI (sk tx nt (nE tx nt ((pa.1 12) + 1))))) (cwV 2 hts gX5_takeBlock_X5_fails rfl rfl rfl ⟨rfl, hd_X5_fails⟩ ⟨Nat.le_of_ble_eq_true rfl, Nat.le_of_ble_eq_true rfl⟩) hK hN hP hD hS hA (fun _ => rfl) 0 5 rfl rfl rfl hl.1 rfl (Nat.le_of_ble_eq_true rfl) ⟨Nat.zero_le _, Nat.zero_le _⟩ dX5_takeBlock_85 (fun r85 u85 H locs hw85 hP hD hS => ?_)
        obtain ⟨rfl, rfl⟩ := hw85
        have hP : PP G (mw G h (oI (oI (oA (oA w11 24 (upd (w11.2 24) (pa.1 23) (nI (nV tx nt ((pa.1 12) + 1))))) 25 (upd ((oA w11 24 (upd (w11.2 24) (pa.1 23) (nI (nV tx nt ((pa.1 12) + 1))))).2 25) (pa.1 23) z)) 12 (nI (sk tx nt (nE tx nt ((pa.1 12) + 1))))) 11 (nI (sk tx nt (nE tx nt ((pa.1 12) + 1))))) lt sj) H := hP
        have hD : va_D A (mw G h (oI (oI (oA (oA w11 24 (upd (w11.2 24) (pa.1 23) (nI (nV tx nt ((pa.1 12) + 1))))) 25 (upd ((oA w11 24 (upd (w11.2 24) (pa.1 23) (nI (nV tx nt ((pa.1 12) + 1))))).2 25) (pa.1 23) z)) 12 (nI (sk tx nt (nE tx nt ((pa.1 12) + 1))))) 11 (nI (sk tx nt (nE tx nt ((pa.1 12) + 1))))) lt sj) := hD
        exact W.iret (v := nI 1) hx hb hr (fun t ht hW => ⟨⟨nI 1, (oI (oI (oA (oA w11 24 (upd (w11.2 24) (pa.1 23) (nI (nV tx nt ((pa.1 12) + 1))))) 25 (upd ((oA w11 24 (upd (w11.2 24) (pa.1 23) (nI (nV tx nt ((pa.1 12) + 1))))).2 25) (pa.1 23) z)) 12 (nI (sk tx nt (nE tx nt ((pa.1 12) + 1))))) 11 (nI (sk tx nt (nE tx nt ((pa.1 12) + 1)))), lt, sj), rfl, Or.inr ⟨_, 1, (sk tx nt (nE tx nt (pa.1 12 + 1))), pa, rfl, by repeat (first | exact rel.refl _ | exact rel.mono (by assumption) (by decide) (by decide) | refine rel.I (by decide) ?_ | refine rel.A (by decide) ?_ | refine rel.trans ?_ (rel.mono (by assumption) (by decide) (by decide))), bST_1 hf11 hy25 c76, rfl, by omega, by omega, rfl⟩, show PP G (mw G h (oI (oI (oA (oA w11 24 (upd (w11.2 24) (pa.1 23) (nI (nV tx nt ((pa.1 12) + 1))))) 25 (upd ((oA w11 24 (upd (w11.2 24) (pa.1 23) (nI (nV tx nt ((pa.1 12) + 1))))).2 25) (pa.1 23) z)) 12 (nI (sk tx nt (nE tx nt ((pa.1 12) + 1))))) 11 (nI (sk tx nt (nE tx nt ((pa.1 12) + 1))))) lt sj) t.heap by rw [ht]; exact hP⟩, hS.F ht⟩) hS.2.2 dX5_takeBlock_88
    · skip
      refine lv_if_ne (tgt := 41) hx hb dX5_takeBlock_28 (by decide) (fun c9 => absurd (by decide) c9) (fun _ => ?_)
      refine lv_aload_n hx hb dX5_takeBlock_31 rfl (lv_at hl 1 rfl) ?_
      refine lv_iconst (v := nI 4) hx hb dX5_takeBlock_32 (by decide) ?_
      refine lv_aload_n hx hb dX5_takeBlock_33 rfl (lv_at hl 1 rfl) ?_
      refine va_get (D := gD G) (ci := 5) (v := .int (w11.1 14)) (C := RX5) (T := TX5) (N := 38) hx hb hts hiX5 hown hK hP 0 rfl rfl 14 (by decide) k120 (fun _ h9 => h9) rfl dX5_takeBlock_34 ?_
      refine topE e1411 ?_
      refine cXi (As := [.int (nI 4), .int (nI (sk tx nt ((pa.1 12) + 1)))]) (rest := []) (S := oS × Int64 × (Nat → Int64)) (wa := mw G h w11 lt sj) (w1 := fun v => mw G h v.1 v.2.1 v.2.2) ⟨hx, hb, hml, hown, hts⟩ (mt_X5_fails l G h _ w11 lt sj (nI 4) (nI (sk tx nt ((pa.1 12) + 1)))) (cwV 2 hts gX5_takeBlock_X5_fails rfl rfl rfl ⟨rfl, hd_X5_fails⟩ ⟨Nat.le_of_ble_eq_true rfl, Nat.le_of_ble_eq_true rfl⟩) hK hN hP hD hS hA (fun _ => rfl) 0 5 rfl rfl rfl hl.1 rfl (Nat.le_of_ble_eq_true rfl) ⟨Nat.zero_le _, Nat.zero_le _⟩ dX5_takeBlock_37 (fun r37 u37 H locs hw37 hP hD hS => ?_)
      obtain ⟨rfl, rfl⟩ := hw37
      have hP : PP G (mw G h (oI w11 11 (nI (sk tx nt ((pa.1 12) + 1)))) lt sj) H := hP
      have hD : va_D A (mw G h (oI w11 11 (nI (sk tx nt ((pa.1 12) + 1)))) lt sj) := hD
      exact W.iret (v := nI 4) hx hb hr (fun t ht hW => ⟨⟨nI 4, (oI w11 11 (nI (sk tx nt ((pa.1 12) + 1))), lt, sj), rfl, Or.inr ⟨_, 4, (sk tx nt (pa.1 12 + 1)), pa, rfl, by repeat (first | exact rel.refl _ | exact rel.mono (by assumption) (by decide) (by decide) | refine rel.I (by decide) ?_ | refine rel.A (by decide) ?_ | refine rel.trans ?_ (rel.mono (by assumption) (by decide) (by decide))), bST_4 hf11 hn25, rfl, by omega, by omega, rfl⟩, show PP G (mw G h (oI w11 11 (nI (sk tx nt ((pa.1 12) + 1)))) lt sj) t.heap by rw [ht]; exact hP⟩, hS.F ht⟩) hS.2.2 dX5_takeBlock_40
  · skip
    have hP : PP G (mw G h w11 lt sj) H := hP
    have hD : va_D A (mw G h w11 lt sj) := hD
    have htx11 : w11.2 9 = tx := (hR11.2 9 (by decide)).trans (htx)
    have hEg11 : ((pa.1 12) + 1) ≤ nE tx nt ((pa.1 12) + 1) := nE_ge _ _ _
    have hEl11 : nE tx nt ((pa.1 12) + 1) ≤ nt := nE_le (by omega)
    refine lv_istore_n (lv' := [(2, .int (nI 1)), (0, .ref (h 0)), (1, .int z)]) hx hb dX5_takeBlock_14 rfl hl (by decide) rfl (fun ls hl => ?_)
    refine lv_iload_n hx hb dX5_takeBlock_15 rfl (lv_at hl 0 rfl) ?_
    refine lv_if_ne (tgt := 41) hx hb dX5_takeBlock_16 (by decide) (fun _ => ?_) (fun c9 => absurd c9 (by decide))
    refine lv_iload_n hx hb dX5_takeBlock_41 rfl (lv_at hl 0 rfl) ?_
    refine lv_if_le (tgt := 47) hx hb dX5_takeBlock_42 (by decide) (fun c9 => absurd c9 (by decide)) (fun _ => ?_)
    refine lv_iload_n hx hb dX5_takeBlock_45 rfl (lv_at hl 0 rfl) ?_
    exact W.iret (v := nI 1) hx hb hr (fun t ht hW => ⟨⟨nI 1, (w11, lt, sj), rfl, Or.inr ⟨_, 1, (sk tx nt (pa.1 12 + 1)), pa, rfl, by repeat (first | exact rel.refl _ | exact rel.mono (by assumption) (by decide) (by decide) | refine rel.I (by decide) ?_ | refine rel.A (by decide) ?_ | refine rel.trans ?_ (rel.mono (by assumption) (by decide) (by decide))), (bST_n (by rw [hf11]; decide)).trans (by rw [hf11]), e1111, by omega, by omega, rfl⟩, show PP G (mw G h w11 lt sj) t.heap by rw [ht]; exact hP⟩, hS.F ht⟩) hS.2.2 dX5_takeBlock_46
  · skip
    have hP : PP G (mw G h w11 lt sj) H := hP
    have hD : va_D A (mw G h w11 lt sj) := hD
    have htx11 : w11.2 9 = tx := (hR11.2 9 (by decide)).trans (htx)
    have hEg11 : ((pa.1 12) + 1) ≤ nE tx nt ((pa.1 12) + 1) := nE_ge _ _ _
    have hEl11 : nE tx nt ((pa.1 12) + 1) ≤ nt := nE_le (by omega)
    refine lv_istore_n (lv' := [(2, .int (nI 2)), (0, .ref (h 0)), (1, .int z)]) hx hb dX5_takeBlock_14 rfl hl (by decide) rfl (fun ls hl => ?_)
    refine lv_iload_n hx hb dX5_takeBlock_15 rfl (lv_at hl 0 rfl) ?_
    refine lv_if_ne (tgt := 41) hx hb dX5_takeBlock_16 (by decide) (fun _ => ?_) (fun c9 => absurd c9 (by decide))
    refine lv_iload_n hx hb dX5_takeBlock_41 rfl (lv_at hl 0 rfl) ?_
    refine lv_if_le (tgt := 47) hx hb dX5_takeBlock_42 (by decide) (fun c9 => absurd c9 (by decide)) (fun _ => ?_)
    refine lv_iload_n hx hb dX5_takeBlock_45 rfl (lv_at hl 0 rfl) ?_
    exact W.iret (v := nI 2) hx hb hr (fun t ht hW => ⟨⟨nI 2, (w11, lt, sj), rfl, Or.inr ⟨_, 2, (sk tx nt (pa.1 12 + 1)), pa, rfl, by repeat (first | exact rel.refl _ | exact rel.mono (by assumption) (by decide) (by decide) | refine rel.I (by decide) ?_ | refine rel.A (by decide) ?_ | refine rel.trans ?_ (rel.mono (by assumption) (by decide) (by decide))), (bST_n (by rw [hf11]; decide)).trans (by rw [hf11]), e1111, by omega, by omega, rfl⟩, show PP G (mw G h w11 lt sj) t.heap by rw [ht]; exact hP⟩, hS.F ht⟩) hS.2.2 dX5_takeBlock_46
set_option maxHeartbeats 1000000 in
set_option maxRecDepth 100000 in
theorem mt_X5_takeLine (l : Launch) (G : gG) (h : Nat → Nat) (sz : Nat) (u : oS) (lt : Int64) (sj : Nat → Int64) (nt : Nat) (tx : Nat → Int32) (pa : pS) (lett : Int32) (hnt : u.1 10 = nI nt) (q240h : nt ≤ 240) (hs : RSm u nt pa) (htx : u.2 9 = tx) (hAl : pa.1 12 < nt) : Met l yX5_takeLine wsX5_takeLine ({ frames := 1, cells := 0, slots := 0, locals := 22 }) (preW G (mw G h u lt sj) sz [.ref (h 0), .int lett]) (va_Qi (fun (r : Int32) (v : oS × Int64 × (Nat → Int64)) => (∃ w s2, v = (w, lt, sj) ∧ rdW u w ∧ lST lett pa = (0, 0, s2) ∧ RSm w nt s2 ∧ pa.1 12 < s2.1 12 ∧ w.1 11 = u.1 11 ∧ r = nI 0) ∨ (∃ w f p s2, v = (w, lt, sj) ∧ rdW u w ∧ lST lett pa = (f, p, s2) ∧ w.1 11 = nI p ∧ 0 < f ∧ f ≤ 4 ∧ r = nI f)) (fun v t => PP G (mw G h v.1 v.2.1 v.2.2) t.heap) (va_A (mw G h u lt sj) sz)) 0 0 (va_A (mw G h u lt sj) sz) := by
  refine Met.ofW (cc := cX5_takeLine) (maxL := 5) (ret := (some .int)) (by decide) rfl ?_
  intro p e s m args below meth c s₁ B hml hv
  obtain ⟨ha, hsz, hP, hK, hN, hD0⟩ := hv
  subst ha
  have hx := B.exec
  have hb := B.bytes
  have hr := B.returns
  have hts := atoms_spec (ws := wsX5_takeLine) B.pre
  have hown : s.vm.findClass RX5 = some m.cls := findClass_of_methodNamed B.named
  have hlocks := B.notSynchronized
  subst hsz
  have hD := hD0.self (sz := s.heap.size)
  generalize hAe : va_A (mw G h u lt sj) s.heap.size = A at hD ⊢
  have hA : ∀ q : Nat, s.heap.size ≤ q → A q := fun q h => by rw [← hAe]; exact Or.inr h
  clear hAe hD0
  have hS : va_S A s.heap s.heap [] := va_S.rf
  have hiX5 : ∀ w ∈ wsX50, w ∈ wsX5_takeLine := fun w h9 => List.mem_cons_of_mem _ (List.mem_append_right _ (h9))
  have k143 := hts (.fieldLink RX5 143 "WovenHistoryModel" "deep" "I") (List.mem_of_getElem? (i := 1) rfl)
  have k56 := hts (.fieldLink RX5 56 "WovenHistoryModel" "isIn" "[Z") (List.mem_of_getElem? (i := 2) rfl)
  have k53 := hts (.fieldLink RX5 53 "WovenHistoryModel" "blockOf" "[I") (List.mem_of_getElem? (i := 3) rfl)
  have k105 := hts (.fieldLink RX5 105 "WovenHistoryModel" "at0" "I") (List.mem_of_getElem? (i := 4) rfl)
  have k150 := hts (.fieldLink RX5 150 "WovenHistoryModel" "readLines" "I") (List.mem_of_getElem? (i := 5) rfl)
  have k44 := hts (.fieldLink RX5 44 "WovenHistoryModel" "readLetter" "[I") (List.mem_of_getElem? (i := 6) rfl)
  have k47 := hts (.fieldLink RX5 47 "WovenHistoryModel" "readBrought" "[I") (List.mem_of_getElem? (i := 7) rfl)
  have k50 := hts (.fieldLink RX5 50 "WovenHistoryModel" "readTook" "[I") (List.mem_of_getElem? (i := 8) rfl)
  have hl := lv_entry ([.ref (h 0), .int lett]) (n := 5) (Nat.le_of_ble_eq_true rfl)
  rw [lg_entry_eq]
  generalize (lg_sl ([.ref (h 0), .int lett]) ++ List.replicate (5 - (lg_sl ([.ref (h 0), .int lett])).length) Slot.unset).toArray = ls at hl ⊢
  have hl : lv_has ls 5 [(0, .ref (h 0)), (1, .int lett)] := hl
  obtain ⟨e10, e12, e15, e19, e23, ⟨q240, qa, qv, ql, qd, qpar⟩, hrw⟩ := id hs
  refine lv_iconst (v := (-1 : Int32)) hx hb dX5_takeLine_0 (by decide) ?_
  refine lv_istore_n (lv' := [(2, .int (-1 : Int32)), (0, .ref (h 0)), (1, .int lett)]) hx hb dX5_takeLine_1 rfl hl (by decide) rfl (fun ls hl => ?_)
  refine lv_iconst (v := nI 0) hx hb dX5_takeLine_2 (by decide) ?_
  refine lv_istore_n (lv' := [(3, .int (nI 0)), (2, .int (-1 : Int32)), (0, .ref (h 0)), (1, .int lett)]) hx hb dX5_takeLine_3 rfl hl (by decide) rfl (fun ls hl => ?_)
  refine lv_iconst (v := nI 0) hx hb dX5_takeLine_4 (by decide) ?_
  refine lv_istore (lv' := [(4, .int (nI 0)), (3, .int (nI 0)), (2, .int (-1 : Int32)), (0, .ref (h 0)), (1, .int lett)]) hx hb dX5_takeLine_5 hl (by decide) rfl (fun ls hl => ?_)
  have LP7 : ∀ (n7m : Nat), ∀ (k : Nat) (x : Int32) (y : Int32) (hk : k ≤ pa.1 23) (hbx : x = brA (pa.2 24) (pa.2 25) k) (hty : y = tkA (pa.2 24) (pa.2 25) k), (pa.1 23 - k < n7m) → ∀ (H : Heap) (locs : List Loc) (ls : Array Slot), PP G (mw G h u lt sj) H → va_D A (mw G h u lt sj) → va_S A s.heap H locs → lv_has ls 5 [(0, .ref (h 0)), (1, .int lett), (2, .int x), (3, .int y), (4, .int (nI k))] → W p l e (headSpec wsX5_takeLine ({ frames := 1, cells := 0, slots := 0, locals := 22 })).room s m ([.ref (h 0), .int lett] : List Value).toArray below meth c H locs 0 0 (MQ below (va_Qi (fun (r : Int32) (v : oS × Int64 × (Nat → Int64)) => (∃ w s2, v = (w, lt, sj) ∧ rdW u w ∧ lST lett pa = (0, 0, s2) ∧ RSm w nt s2 ∧ pa.1 12 < s2.1 12 ∧ w.1 11 = u.1 11 ∧ r = nI 0) ∨ (∃ w f p s2, v = (w, lt, sj) ∧ rdW u w ∧ lST lett pa = (f, p, s2) ∧ w.1 11 = nI p ∧ 0 < f ∧ f ≤ 4 ∧ r = nI f)) (fun v t => PP G (mw G h v.1 v.2.1 v.2.2) t.heap) A) ([.ref (h 0), .int lett] : List Value).toArray s 0 0 A) (F0 m 7 ls []) := by
    intro n7m
    induction n7m with
    | zero => intro k x y hk hbx hty hmu H locs ls hP hD hS hl; exact absurd hmu (Nat.not_lt_zero _)
    | succ n7m ih7 =>
      intro k x y hk hbx hty hmu H locs ls hP hD hS hl
      refine lv_iload hx hb dX5_takeLine_7 (lv_at hl 4 rfl) ?_
      refine lv_aload_n hx hb dX5_takeLine_9 rfl (lv_at hl 0 rfl) ?_
      refine va_get (D := gD G) (ci := 5) (v := .int (u.1 23)) (C := RX5) (T := TX5) (N := 38) hx hb hts hiX5 hown hK hP 0 rfl rfl 23 (by decide) k143 (fun _ h9 => h9) rfl dX5_takeLine_10 ?_
      refine topE e23 ?_
      refine lv_icmp_ge (tgt := 70) hx hb dX5_takeLine_13 (by decide) (fun c13 => ?_) (fun c13 => ?_)
      · skip
        have n13 : (pa.1 23) ≤ k := (nI_leI (a := pa.1 23) (b := k) (by omega) (by omega)).mp c13
        have ek : k = pa.1 23 := by omega
        rw [ek] at hbx hty
        refine lv_iload_n hx hb dX5_takeLine_70 rfl (lv_at hl 2 rfl) ?_
        refine lv_if_ge (tgt := 84) hx hb dX5_takeLine_71 (by decide) (fun c71 => ?_) (fun c71 => ?_)
        · skip
          have c71 : ¬ x < 0 := Int32.not_lt.mpr c71
          refine lv_aload_n hx hb dX5_takeLine_84 rfl (lv_at hl 0 rfl) ?_
          refine va_get (D := gD G) (ci := 5) (v := .int (u.1 19)) (C := RX5) (T := TX5) (N := 38) hx hb hts hiX5 hown hK hP 0 rfl rfl 19 (by decide) k150 (fun _ h9 => h9) rfl dX5_takeLine_85 ?_
          refine topE e19 ?_
          refine lv_bipush (v := nI 120) hx hb dX5_takeLine_88 (by decide) ?_
          refine lv_icmp_ne (tgt := 103) hx hb dX5_takeLine_90 (by decide) (fun c90 => ?_) (fun c90 => ?_)
          · skip
            have n90 : ¬ ((pa.1 19) = 120) := fun q9 => c90 ((nI_eq (a := pa.1 19) (b := 120) (by omega) (by omega)).mpr q9)
            refine lv_iload_n hx hb dX5_takeLine_103 rfl (lv_at hl 3 rfl) ?_
            refine lv_iconst (v := (2 : Int32)) hx hb dX5_takeLine_104 (by decide) ?_
            refine lv_iload_n hx hb dX5_takeLine_105 rfl (lv_at hl 2 rfl) ?_
            refine lv_ishl hx hb dX5_takeLine_106 ?_
            refine lv_iconst (v := (1 : Int32)) hx hb dX5_takeLine_107 (by decide) ?_
            refine lv_isub hx hb dX5_takeLine_108 ?_
            refine lv_iand hx hb dX5_takeLine_109 ?_
            refine lv_if_eq (tgt := 123) hx hb dX5_takeLine_110 (by decide) (fun c110 => ?_) (fun c110 => ?_)
            · skip
              refine lv_aload_n hx hb dX5_takeLine_123 rfl (lv_at hl 0 rfl) ?_
              refine va_get (D := gD G) (ci := 5) (v := .ref (h 20)) (C := RX5) (T := TX5) (N := 38) hx hb hts hiX5 hown hK hP 0 rfl rfl 20 (by decide) k44 (fun _ h9 => h9) rfl dX5_takeLine_124 ?_
              refine lv_aload_n hx hb dX5_takeLine_127 rfl (lv_at hl 0 rfl) ?_
              refine va_get (D := gD G) (ci := 5) (v := .int (u.1 19)) (C := RX5) (T := TX5) (N := 38) hx hb hts hiX5 hown hK hP 0 rfl rfl 19 (by decide) k150 (fun _ h9 => h9) rfl dX5_takeLine_128 ?_
              refine topE e19 ?_
              refine lv_iload_n hx hb dX5_takeLine_131 rfl (lv_at hl 1 rfl) ?_
              refine iastN (f := u.2 20) (n := 120) (k := pa.1 19) hx hb hK hP hD hS 11 rfl rfl (by omega) dX5_takeLine_132 (fun H locs hP hD hS => ?_)
              have hP : PP G (mw G h (oA u 20 (upd (u.2 20) (pa.1 19) lett)) lt sj) H := hP
              have hD : va_D A (mw G h (oA u 20 (upd (u.2 20) (pa.1 19) lett)) lt sj) := hD
              refine lv_aload_n hx hb dX5_takeLine_133 rfl (lv_at hl 0 rfl) ?_
              refine va_get (D := gD G) (ci := 5) (v := .ref (h 21)) (C := RX5) (T := TX5) (N := 38) hx hb hts hiX5 hown hK hP 0 rfl rfl 21 (by decide) k47 (fun _ h9 => h9) rfl dX5_takeLine_134 ?_
              refine lv_aload_n hx hb dX5_takeLine_137 rfl (lv_at hl 0 rfl) ?_
              refine va_get (D := gD G) (ci := 5) (v := .int ((oA u 20 (upd (u.2 20) (pa.1 19) lett)).1 19)) (C := RX5) (T := TX5) (N := 38) hx hb hts hiX5 hown hK hP 0 rfl rfl 19 (by decide) k150 (fun _ h9 => h9) rfl dX5_takeLine_138 ?_
              refine topE e19 ?_
              refine lv_iload_n hx hb dX5_takeLine_141 rfl (lv_at hl 2 rfl) ?_
              refine iastN (f := (oA u 20 (upd (u.2 20) (pa.1 19) lett)).2 21) (n := 120) (k := pa.1 19) hx hb hK hP hD hS 12 rfl rfl (by omega) dX5_takeLine_142 (fun H locs hP hD hS => ?_)
              have hP : PP G (mw G h (oA (oA u 20 (upd (u.2 20) (pa.1 19) lett)) 21 (upd ((oA u 20 (upd (u.2 20) (pa.1 19) lett)).2 21) (pa.1 19) x)) lt sj) H := hP
              have hD : va_D A (mw G h (oA (oA u 20 (upd (u.2 20) (pa.1 19) lett)) 21 (upd ((oA u 20 (upd (u.2 20) (pa.1 19) lett)).2 21) (pa.1 19) x)) lt sj) := hD
              refine lv_aload_n hx hb dX5_takeLine_143 rfl (lv_at hl 0 rfl) ?_
              refine va_get (D := gD G) (ci := 5) (v := .ref (h 22)) (C := RX5) (T := TX5) (N := 38) hx hb hts hiX5 hown hK hP 0 rfl rfl 22 (by decide) k50 (fun _ h9 => h9) rfl dX5_takeLine_144 ?_
              refine lv_aload_n hx hb dX5_takeLine_147 rfl (lv_at hl 0 rfl) ?_
              refine va_get (D := gD G) (ci := 5) (v := .int ((oA (oA u 20 (upd (u.2 20) (pa.1 19) lett)) 21 (upd ((oA u 20 (upd (u.2 20) (pa.1 19) lett)).2 21) (pa.1 19) x)).1 19)) (C := RX5) (T := TX5) (N := 38) hx hb hts hiX5 hown hK hP 0 rfl rfl 19 (by decide) k150 (fun _ h9 => h9) rfl dX5_takeLine_148 ?_
              refine topE e19 ?_
              refine lv_iload_n hx hb dX5_takeLine_151 rfl (lv_at hl 3 rfl) ?_
              refine iastN (f := (oA (oA u 20 (upd (u.2 20) (pa.1 19) lett)) 21 (upd ((oA u 20 (upd (u.2 20) (pa.1 19) lett)).2 21) (pa.1 19) x)).2 22) (n := 120) (k := pa.1 19) hx hb hK hP hD hS 13 rfl rfl (by omega) dX5_takeLine_152 (fun H locs hP hD hS => ?_)
              have hP : PP G (mw G h (oA (oA (oA u 20 (upd (u.2 20) (pa.1 19) lett)) 21 (upd ((oA u 20 (upd (u.2 20) (pa.1 19) lett)).2 21) (pa.1 19) x)) 22 (upd ((oA (oA u 20 (upd (u.2 20) (pa.1 19) lett)) 21 (upd ((oA u 20 (upd (u.2 20) (pa.1 19) lett)).2 21) (pa.1 19) x)).2 22) (pa.1 19) y)) lt sj) H := hP
              have hD : va_D A (mw G h (oA (oA (oA u 20 (upd (u.2 20) (pa.1 19) lett)) 21 (upd ((oA u 20 (upd (u.2 20) (pa.1 19) lett)).2 21) (pa.1 19) x)) 22 (upd ((oA (oA u 20 (upd (u.2 20) (pa.1 19) lett)) 21 (upd ((oA u 20 (upd (u.2 20) (pa.1 19) lett)).2 21) (pa.1 19) x)).2 22) (pa.1 19) y)) lt sj) := hD
              refine lv_aload_n hx hb dX5_takeLine_153 rfl (lv_at hl 0 rfl) ?_
              refine lv_dup hx hb dX5_takeLine_154 rfl ?_
              refine va_get (D := gD G) (ci := 5) (v := .int ((oA (oA (oA u 20 (upd (u.2 20) (pa.1 19) lett)) 21 (upd ((oA u 20 (upd (u.2 20) (pa.1 19) lett)).2 21) (pa.1 19) x)) 22 (upd ((oA (oA u 20 (upd (u.2 20) (pa.1 19) lett)) 21 (upd ((oA u 20 (upd (u.2 20) (pa.1 19) lett)).2 21) (pa.1 19) x)).2 22) (pa.1 19) y)).1 19)) (C := RX5) (T := TX5) (N := 38) hx hb hts hiX5 hown hK hP 0 rfl rfl 19 (by decide) k150 (fun _ h9 => h9) rfl dX5_takeLine_155 ?_
              refine topE e19 ?_
              refine lv_iconst (v := nI 1) hx hb dX5_takeLine_158 (by decide) ?_
              refine lv_iadd hx hb dX5_takeLine_159 ?_
              refine topE (y := nI ((pa.1 19) + 1)) (nI_add (pa.1 19) 1) ?_
              refine va_put (D := gD G) (ci := 5) (v := .int (nI ((pa.1 19) + 1))) (ty := .int) (C := RX5) (T := TX5) (N := 38) hx hb hts hiX5 tyX5 tyX5_ok nmX5 hown hK hP hD hS 0 rfl rfl 19 (by decide) k150 (fun _ h9 => h9) rfl (tyX5_ok 19 (by decide)) (rfl) (rfl) (Nat.le_of_ble_eq_true rfl) dX5_takeLine_160 (fun H locs hP hD hS => ?_)
              have hP : PP G (mw G h (oI (oA (oA (oA u 20 (upd (u.2 20) (pa.1 19) lett)) 21 (upd ((oA u 20 (upd (u.2 20) (pa.1 19) lett)).2 21) (pa.1 19) x)) 22 (upd ((oA (oA u 20 (upd (u.2 20) (pa.1 19) lett)) 21 (upd ((oA u 20 (upd (u.2 20) (pa.1 19) lett)).2 21) (pa.1 19) x)).2 22) (pa.1 19) y)) 19 (nI ((pa.1 19) + 1))) lt sj) H := hP
              have hD : va_D A (mw G h (oI (oA (oA (oA u 20 (upd (u.2 20) (pa.1 19) lett)) 21 (upd ((oA u 20 (upd (u.2 20) (pa.1 19) lett)).2 21) (pa.1 19) x)) 22 (upd ((oA (oA u 20 (upd (u.2 20) (pa.1 19) lett)) 21 (upd ((oA u 20 (upd (u.2 20) (pa.1 19) lett)).2 21) (pa.1 19) x)).2 22) (pa.1 19) y)) 19 (nI ((pa.1 19) + 1))) lt sj) := hD
              refine lv_aload_n hx hb dX5_takeLine_163 rfl (lv_at hl 0 rfl) ?_
              refine lv_dup hx hb dX5_takeLine_164 rfl ?_
              refine va_get (D := gD G) (ci := 5) (v := .int ((oI (oA (oA (oA u 20 (upd (u.2 20) (pa.1 19) lett)) 21 (upd ((oA u 20 (upd (u.2 20) (pa.1 19) lett)).2 21) (pa.1 19) x)) 22 (upd ((oA (oA u 20 (upd (u.2 20) (pa.1 19) lett)) 21 (upd ((oA u 20 (upd (u.2 20) (pa.1 19) lett)).2 21) (pa.1 19) x)).2 22) (pa.1 19) y)) 19 (nI ((pa.1 19) + 1))).1 12)) (C := RX5) (T := TX5) (N := 38) hx hb hts hiX5 hown hK hP 0 rfl rfl 12 (by decide) k105 (fun _ h9 => h9) rfl dX5_takeLine_165 ?_
              refine topE e12 ?_
              refine lv_iconst (v := nI 1) hx hb dX5_takeLine_168 (by decide) ?_
              refine lv_iadd hx hb dX5_takeLine_169 ?_
              refine topE (y := nI ((pa.1 12) + 1)) (nI_add (pa.1 12) 1) ?_
              refine va_put (D := gD G) (ci := 5) (v := .int (nI ((pa.1 12) + 1))) (ty := .int) (C := RX5) (T := TX5) (N := 38) hx hb hts hiX5 tyX5 tyX5_ok nmX5 hown hK hP hD hS 0 rfl rfl 12 (by decide) k105 (fun _ h9 => h9) rfl (tyX5_ok 12 (by decide)) (rfl) (rfl) (Nat.le_of_ble_eq_true rfl) dX5_takeLine_170 (fun H locs hP hD hS => ?_)
              have hP : PP G (mw G h (oI (oI (oA (oA (oA u 20 (upd (u.2 20) (pa.1 19) lett)) 21 (upd ((oA u 20 (upd (u.2 20) (pa.1 19) lett)).2 21) (pa.1 19) x)) 22 (upd ((oA (oA u 20 (upd (u.2 20) (pa.1 19) lett)) 21 (upd ((oA u 20 (upd (u.2 20) (pa.1 19) lett)).2 21) (pa.1 19) x)).2 22) (pa.1 19) y)) 19 (nI ((pa.1 19) + 1))) 12 (nI ((pa.1 12) + 1))) lt sj) H := hP
              have hD : va_D A (mw G h (oI (oI (oA (oA (oA u 20 (upd (u.2 20) (pa.1 19) lett)) 21 (upd ((oA u 20 (upd (u.2 20) (pa.1 19) lett)).2 21) (pa.1 19) x)) 22 (upd ((oA (oA u 20 (upd (u.2 20) (pa.1 19) lett)) 21 (upd ((oA u 20 (upd (u.2 20) (pa.1 19) lett)).2 21) (pa.1 19) x)).2 22) (pa.1 19) y)) 19 (nI ((pa.1 19) + 1))) 12 (nI ((pa.1 12) + 1))) lt sj) := hD
              refine lv_iconst (v := nI 0) hx hb dX5_takeLine_173 (by decide) ?_
              exact W.iret (v := nI 0) hx hb hr (fun t ht hW => ⟨⟨nI 0, (oI (oI (oA (oA (oA u 20 (upd (u.2 20) (pa.1 19) lett)) 21 (upd ((oA u 20 (upd (u.2 20) (pa.1 19) lett)).2 21) (pa.1 19) x)) 22 (upd ((oA (oA u 20 (upd (u.2 20) (pa.1 19) lett)) 21 (upd ((oA u 20 (upd (u.2 20) (pa.1 19) lett)).2 21) (pa.1 19) x)).2 22) (pa.1 19) y)) 19 (nI ((pa.1 19) + 1))) 12 (nI ((pa.1 12) + 1)), lt, sj), rfl, by
                                        have HQ : lST lett pa = (0, 0, lOK lett pa x y) := by unfold lST; rw [← hbx, ← hty]; exact lSa_0 c71 n90 c110
                                        exact Or.inl ⟨_, lOK lett pa x y, rfl, by repeat (first | exact rel.refl _ | exact rel.mono (by assumption) (by decide) (by decide) | refine rel.I (by decide) ?_ | refine rel.A (by decide) ?_ | refine rel.trans ?_ (rel.mono (by assumption) (by decide) (by decide))), HQ, ⟨hnt, rfl, e15, rfl, e23, ⟨q240, (show (pa.1 12) + 1 ≤ nt by omega), (show pa.1 15 ≤ 24 by omega), (show (pa.1 19) + 1 ≤ 120 by omega), (show pa.1 23 ≤ (pa.1 12) + 1 by omega), qpar⟩, RwM_l hrw rfl rfl rfl rfl rfl rfl rfl rfl⟩, (show pa.1 12 < (pa.1 12) + 1 by omega), rfl, rfl⟩, show PP G (mw G h (oI (oI (oA (oA (oA u 20 (upd (u.2 20) (pa.1 19) lett)) 21 (upd ((oA u 20 (upd (u.2 20) (pa.1 19) lett)).2 21) (pa.1 19) x)) 22 (upd ((oA (oA u 20 (upd (u.2 20) (pa.1 19) lett)) 21 (upd ((oA u 20 (upd (u.2 20) (pa.1 19) lett)).2 21) (pa.1 19) x)).2 22) (pa.1 19) y)) 19 (nI ((pa.1 19) + 1))) 12 (nI ((pa.1 12) + 1))) lt sj) t.heap by rw [ht]; exact hP⟩, hS.F ht⟩) hS.2.2 dX5_takeLine_174
            · skip
              refine lv_aload_n hx hb dX5_takeLine_113 rfl (lv_at hl 0 rfl) ?_
              refine lv_iconst (v := nI 4) hx hb dX5_takeLine_114 (by decide) ?_
              refine lv_aload_n hx hb dX5_takeLine_115 rfl (lv_at hl 0 rfl) ?_
              refine va_get (D := gD G) (ci := 5) (v := .int (u.1 12)) (C := RX5) (T := TX5) (N := 38) hx hb hts hiX5 hown hK hP 0 rfl rfl 12 (by decide) k105 (fun _ h9 => h9) rfl dX5_takeLine_116 ?_
              refine topE e12 ?_
              refine cXi (As := [.int (nI 4), .int (nI (pa.1 12))]) (rest := []) (S := oS × Int64 × (Nat → Int64)) (wa := mw G h u lt sj) (w1 := fun v => mw G h v.1 v.2.1 v.2.2) ⟨hx, hb, hml, hown, hts⟩ (mt_X5_fails l G h _ u lt sj (nI 4) (nI (pa.1 12))) (cwV 2 hts gX5_takeLine_X5_fails rfl rfl rfl ⟨rfl, hd_X5_fails⟩ ⟨Nat.le_of_ble_eq_true rfl, Nat.le_of_ble_eq_true rfl⟩) hK hN hP hD hS hA (fun _ => rfl) 0 5 rfl rfl rfl hl.1 rfl (Nat.le_of_ble_eq_true rfl) ⟨Nat.zero_le _, Nat.zero_le _⟩ dX5_takeLine_119 (fun r119 u119 H locs hw119 hP hD hS => ?_)
              obtain ⟨rfl, rfl⟩ := hw119
              have hP : PP G (mw G h (oI u 11 (nI (pa.1 12))) lt sj) H := hP
              have hD : va_D A (mw G h (oI u 11 (nI (pa.1 12))) lt sj) := hD
              exact W.iret (v := nI 4) hx hb hr (fun t ht hW => ⟨⟨nI 4, (oI u 11 (nI (pa.1 12)), lt, sj), rfl, Or.inr ⟨_, 4, (pa.1 12), pa, rfl, by repeat (first | exact rel.refl _ | exact rel.mono (by assumption) (by decide) (by decide) | refine rel.I (by decide) ?_ | refine rel.A (by decide) ?_ | refine rel.trans ?_ (rel.mono (by assumption) (by decide) (by decide))), by unfold lST; rw [← hbx, ← hty]; exact lSa_4 c71 n90 c110, rfl, by omega, by omega, rfl⟩, show PP G (mw G h (oI u 11 (nI (pa.1 12))) lt sj) t.heap by rw [ht]; exact hP⟩, hS.F ht⟩) hS.2.2 dX5_takeLine_122
          · skip
            have n90 : (pa.1 19) = 120 := (nI_eq (a := pa.1 19) (b := 120) (by omega) (by omega)).mp c90
            refine lv_aload_n hx hb dX5_takeLine_93 rfl (lv_at hl 0 rfl) ?_
            refine lv_iconst (v := nI 3) hx hb dX5_takeLine_94 (by decide) ?_
            refine lv_aload_n hx hb dX5_takeLine_95 rfl (lv_at hl 0 rfl) ?_
            refine va_get (D := gD G) (ci := 5) (v := .int (u.1 12)) (C := RX5) (T := TX5) (N := 38) hx hb hts hiX5 hown hK hP 0 rfl rfl 12 (by decide) k105 (fun _ h9 => h9) rfl dX5_takeLine_96 ?_
            refine topE e12 ?_
            refine cXi (As := [.int (nI 3), .int (nI (pa.1 12))]) (rest := []) (S := oS × Int64 × (Nat → Int64)) (wa := mw G h u lt sj) (w1 := fun v => mw G h v.1 v.2.1 v.2.2) ⟨hx, hb, hml, hown, hts⟩ (mt_X5_fails l G h _ u lt sj (nI 3) (nI (pa.1 12))) (cwV 2 hts gX5_takeLine_X5_fails rfl rfl rfl ⟨rfl, hd_X5_fails⟩ ⟨Nat.le_of_ble_eq_true rfl, Nat.le_of_ble_eq_true rfl⟩) hK hN hP hD hS hA (fun _ => rfl) 0 5 rfl rfl rfl hl.1 rfl (Nat.le_of_ble_eq_true rfl) ⟨Nat.zero_le _, Nat.zero_le _⟩ dX5_takeLine_99 (fun r99 u99 H locs hw99 hP hD hS => ?_)
            obtain ⟨rfl, rfl⟩ := hw99
            have hP : PP G (mw G h (oI u 11 (nI (pa.1 12))) lt sj) H := hP
            have hD : va_D A (mw G h (oI u 11 (nI (pa.1 12))) lt sj) := hD
            exact W.iret (v := nI 3) hx hb hr (fun t ht hW => ⟨⟨nI 3, (oI u 11 (nI (pa.1 12)), lt, sj), rfl, Or.inr ⟨_, 3, (pa.1 12), pa, rfl, by repeat (first | exact rel.refl _ | exact rel.mono (by assumption) (by decide) (by decide) | refine rel.I (by decide) ?_ | refine rel.A (by decide) ?_ | refine rel.trans ?_ (rel.mono (by assumption) (by decide) (by decide))), by unfold lST; rw [← hbx, ← hty]; exact lSa_3 c71 n90, rfl, by omega, by omega, rfl⟩, show PP G (mw G h (oI u 11 (nI (pa.1 12))) lt sj) t.heap by rw [ht]; exact hP⟩, hS.F ht⟩) hS.2.2 dX5_takeLine_102
        · skip
          have c71 : x < 0 := Int32.not_le.mp c71
          refine lv_aload_n hx hb dX5_takeLine_74 rfl (lv_at hl 0 rfl) ?_
          refine lv_iconst (v := nI 1) hx hb dX5_takeLine_75 (by decide) ?_
          refine lv_aload_n hx hb dX5_takeLine_76 rfl (lv_at hl 0 rfl) ?_
          refine va_get (D := gD G) (ci := 5) (v := .int (u.1 12)) (C := RX5) (T := TX5) (N := 38) hx hb hts hiX5 hown hK hP 0 rfl rfl 12 (by decide) k105 (fun _ h9 => h9) rfl dX5_takeLine_77 ?_
          refine topE e12 ?_
          refine cXi (As := [.int (nI 1), .int (nI (pa.1 12))]) (rest := []) (S := oS × Int64 × (Nat → Int64)) (wa := mw G h u lt sj) (w1 := fun v => mw G h v.1 v.2.1 v.2.2) ⟨hx, hb, hml, hown, hts⟩ (mt_X5_fails l G h _ u lt sj (nI 1) (nI (pa.1 12))) (cwV 2 hts gX5_takeLine_X5_fails rfl rfl rfl ⟨rfl, hd_X5_fails⟩ ⟨Nat.le_of_ble_eq_true rfl, Nat.le_of_ble_eq_true rfl⟩) hK hN hP hD hS hA (fun _ => rfl) 0 5 rfl rfl rfl hl.1 rfl (Nat.le_of_ble_eq_true rfl) ⟨Nat.zero_le _, Nat.zero_le _⟩ dX5_takeLine_80 (fun r80 u80 H locs hw80 hP hD hS => ?_)
          obtain ⟨rfl, rfl⟩ := hw80
          have hP : PP G (mw G h (oI u 11 (nI (pa.1 12))) lt sj) H := hP
          have hD : va_D A (mw G h (oI u 11 (nI (pa.1 12))) lt sj) := hD
          exact W.iret (v := nI 1) hx hb hr (fun t ht hW => ⟨⟨nI 1, (oI u 11 (nI (pa.1 12)), lt, sj), rfl, Or.inr ⟨_, 1, (pa.1 12), pa, rfl, by repeat (first | exact rel.refl _ | exact rel.mono (by assumption) (by decide) (by decide) | refine rel.I (by decide) ?_ | refine rel.A (by decide) ?_ | refine rel.trans ?_ (rel.mono (by assumption) (by decide) (by decide))), by unfold lST; rw [← hbx, ← hty]; exact lSa_1 c71, rfl, by omega, by omega, rfl⟩, show PP G (mw G h (oI u 11 (nI (pa.1 12))) lt sj) t.heap by rw [ht]; exact hP⟩, hS.F ht⟩) hS.2.2 dX5_takeLine_83
      · skip
        have n13 : ¬ ((pa.1 23) ≤ k) := fun q9 => c13 ((nI_leI (a := pa.1 23) (b := k) (by omega) (by omega)).mpr q9)
        refine lv_aload_n hx hb dX5_takeLine_16 rfl (lv_at hl 0 rfl) ?_
        refine va_get (D := gD G) (ci := 5) (v := .ref (h 25)) (C := RX5) (T := TX5) (N := 38) hx hb hts hiX5 hown hK hP 0 rfl rfl 25 (by decide) k56 (fun _ h9 => h9) rfl dX5_takeLine_17 ?_
        refine lv_iload hx hb dX5_takeLine_20 (lv_at hl 4 rfl) ?_
        refine zaldN (f := u.2 25) (n := 240) (k := k) hx hb hK hP 15 rfl rfl (by omega) dX5_takeLine_22 ?_
        refine topE (hrw.2.2.2.2.2.2.2 k (by omega)) ?_
        refine lv_if_eq (tgt := 36) hx hb dX5_takeLine_23 (by decide) (fun c23 => ?_) (fun c23 => ?_)
        · skip
          refine lv_iload_n hx hb dX5_takeLine_36 rfl (lv_at hl 2 rfl) ?_
          refine lv_istore_n (lv' := [(2, .int x), (0, .ref (h 0)), (1, .int lett), (3, .int y), (4, .int (nI k))]) hx hb dX5_takeLine_37 rfl hl (by decide) rfl (fun ls hl => ?_)
          refine lv_iload_n hx hb dX5_takeLine_38 rfl (lv_at hl 3 rfl) ?_
          refine lv_aload_n hx hb dX5_takeLine_39 rfl (lv_at hl 1 rfl) ?_
          refine va_get (D := gD G) (ci := 5) (v := .ref (h 25)) (C := RX5) (T := TX5) (N := 38) hx hb hts hiX5 hown hK hP 0 rfl rfl 25 (by decide) k56 (fun _ h9 => h9) rfl dX5_takeLine_40 ?_
          refine lv_iload hx hb dX5_takeLine_43 (lv_at hl 4 rfl) ?_
          refine zaldN (f := u.2 25) (n := 240) (k := k) hx hb hK hP 15 rfl rfl (by omega) dX5_takeLine_45 ?_
          refine topE (hrw.2.2.2.2.2.2.2 k (by omega)) ?_
          refine lv_if_eq (tgt := 53) hx hb dX5_takeLine_46 (by decide) (fun c46 => ?_) (fun c46 => ?_)
          · skip
            refine lv_iconst (v := (1 : Int32)) hx hb dX5_takeLine_53 (by decide) ?_
            refine lv_aload_n hx hb dX5_takeLine_54 rfl (lv_at hl 1 rfl) ?_
            refine va_get (D := gD G) (ci := 5) (v := .ref (h 24)) (C := RX5) (T := TX5) (N := 38) hx hb hts hiX5 hown hK hP 0 rfl rfl 24 (by decide) k53 (fun _ h9 => h9) rfl dX5_takeLine_55 ?_
            refine lv_iload hx hb dX5_takeLine_58 (lv_at hl 4 rfl) ?_
            refine ialdN (f := u.2 24) (n := 240) (k := k) hx hb hK hP 14 rfl rfl (by omega) dX5_takeLine_60 ?_
            refine topE (hrw.2.2.2.2.2.2.1 k (by omega)) ?_
            refine lv_ishl hx hb dX5_takeLine_61 ?_
            refine lv_ior hx hb dX5_takeLine_62 ?_
            refine lv_istore_n (lv' := [(3, .int (y ||| ((1 : Int32) <<< ((pa.2 24 k) &&& 31)))), (2, .int x), (0, .ref (h 0)), (1, .int lett), (4, .int (nI k))]) hx hb dX5_takeLine_63 rfl hl (by decide) rfl (fun ls hl => ?_)
            refine lv_iinc (v := nI (k + 1)) (lv' := [(4, .int (nI (k + 1))), (3, .int (y ||| ((1 : Int32) <<< ((pa.2 24 k) &&& 31)))), (2, .int x), (0, .ref (h 0)), (1, .int lett)]) hx hb dX5_takeLine_64 hl (k := 4) rfl (nI_1 k) (by decide) rfl (fun ls hl => ?_)
            refine lv_goto (tgt := 7) hx hb dX5_takeLine_67 (by decide) ?_
            exact ih7 (k + 1) x (y ||| ((1 : Int32) <<< ((pa.2 24 k) &&& 31))) (by first | assumption | omega) (by first | (rw [brA, if_pos c23]; exact hbx) | (rw [brA, if_neg c23])) (by first | (rw [tkA, if_pos c46, ← hty]) | (rw [tkA, if_neg c46, ← hty])) (by omega) _ _ ls hP hD hS (lv_sub hl [3, 4, 2, 1, 0] rfl)
          · skip
            refine lv_iconst (v := (0 : Int32)) hx hb dX5_takeLine_49 (by decide) ?_
            refine lv_goto (tgt := 62) hx hb dX5_takeLine_50 (by decide) ?_
            refine lv_ior hx hb dX5_takeLine_62 ?_
            refine lv_istore_n (lv' := [(3, .int (y ||| (0 : Int32))), (2, .int x), (0, .ref (h 0)), (1, .int lett), (4, .int (nI k))]) hx hb dX5_takeLine_63 rfl hl (by decide) rfl (fun ls hl => ?_)
            refine lv_iinc (v := nI (k + 1)) (lv' := [(4, .int (nI (k + 1))), (3, .int (y ||| (0 : Int32))), (2, .int x), (0, .ref (h 0)), (1, .int lett)]) hx hb dX5_takeLine_64 hl (k := 4) rfl (nI_1 k) (by decide) rfl (fun ls hl => ?_)
            refine lv_goto (tgt := 7) hx hb dX5_takeLine_67 (by decide) ?_
            exact ih7 (k + 1) x (y ||| (0 : Int32)) (by first | assumption | omega) (by first | (rw [brA, if_pos c23]; exact hbx) | (rw [brA, if_neg c23])) (by first | (rw [tkA, if_pos c46, ← hty]) | (rw [tkA, if_neg c46, ← hty])) (by omega) _ _ ls hP hD hS (lv_sub hl [3, 4, 2, 1, 0] rfl)
        · skip
          refine lv_aload_n hx hb dX5_takeLine_26 rfl (lv_at hl 0 rfl) ?_
          refine va_get (D := gD G) (ci := 5) (v := .ref (h 24)) (C := RX5) (T := TX5) (N := 38) hx hb hts hiX5 hown hK hP 0 rfl rfl 24 (by decide) k53 (fun _ h9 => h9) rfl dX5_takeLine_27 ?_
          refine lv_iload hx hb dX5_takeLine_30 (lv_at hl 4 rfl) ?_
          refine ialdN (f := u.2 24) (n := 240) (k := k) hx hb hK hP 14 rfl rfl (by omega) dX5_takeLine_32 ?_
          refine topE (hrw.2.2.2.2.2.2.1 k (by omega)) ?_
          refine lv_goto (tgt := 37) hx hb dX5_takeLine_33 (by decide) ?_
          refine lv_istore_n (lv' := [(2, .int (pa.2 24 k)), (0, .ref (h 0)), (1, .int lett), (3, .int y), (4, .int (nI k))]) hx hb dX5_takeLine_37 rfl hl (by decide) rfl (fun ls hl => ?_)
          refine lv_iload_n hx hb dX5_takeLine_38 rfl (lv_at hl 3 rfl) ?_
          refine lv_aload_n hx hb dX5_takeLine_39 rfl (lv_at hl 1 rfl) ?_
          refine va_get (D := gD G) (ci := 5) (v := .ref (h 25)) (C := RX5) (T := TX5) (N := 38) hx hb hts hiX5 hown hK hP 0 rfl rfl 25 (by decide) k56 (fun _ h9 => h9) rfl dX5_takeLine_40 ?_
          refine lv_iload hx hb dX5_takeLine_43 (lv_at hl 4 rfl) ?_
          refine zaldN (f := u.2 25) (n := 240) (k := k) hx hb hK hP 15 rfl rfl (by omega) dX5_takeLine_45 ?_
          refine topE (hrw.2.2.2.2.2.2.2 k (by omega)) ?_
          refine lv_if_eq (tgt := 53) hx hb dX5_takeLine_46 (by decide) (fun c46 => ?_) (fun c46 => ?_)
          · skip
            refine lv_iconst (v := (1 : Int32)) hx hb dX5_takeLine_53 (by decide) ?_
            refine lv_aload_n hx hb dX5_takeLine_54 rfl (lv_at hl 1 rfl) ?_
            refine va_get (D := gD G) (ci := 5) (v := .ref (h 24)) (C := RX5) (T := TX5) (N := 38) hx hb hts hiX5 hown hK hP 0 rfl rfl 24 (by decide) k53 (fun _ h9 => h9) rfl dX5_takeLine_55 ?_
            refine lv_iload hx hb dX5_takeLine_58 (lv_at hl 4 rfl) ?_
            refine ialdN (f := u.2 24) (n := 240) (k := k) hx hb hK hP 14 rfl rfl (by omega) dX5_takeLine_60 ?_
            refine topE (hrw.2.2.2.2.2.2.1 k (by omega)) ?_
            refine lv_ishl hx hb dX5_takeLine_61 ?_
            refine lv_ior hx hb dX5_takeLine_62 ?_
            refine lv_istore_n (lv' := [(3, .int (y ||| ((1 : Int32) <<< ((pa.2 24 k) &&& 31)))), (2, .int (pa.2 24 k)), (0, .ref (h 0)), (1, .int lett), (4, .int (nI k))]) hx hb dX5_takeLine_63 rfl hl (by decide) rfl (fun ls hl => ?_)
            refine lv_iinc (v := nI (k + 1)) (lv' := [(4, .int (nI (k + 1))), (3, .int (y ||| ((1 : Int32) <<< ((pa.2 24 k) &&& 31)))), (2, .int (pa.2 24 k)), (0, .ref (h 0)), (1, .int lett)]) hx hb dX5_takeLine_64 hl (k := 4) rfl (nI_1 k) (by decide) rfl (fun ls hl => ?_)
            refine lv_goto (tgt := 7) hx hb dX5_takeLine_67 (by decide) ?_
            exact ih7 (k + 1) (pa.2 24 k) (y ||| ((1 : Int32) <<< ((pa.2 24 k) &&& 31))) (by first | assumption | omega) (by first | (rw [brA, if_pos c23]; exact hbx) | (rw [brA, if_neg c23])) (by first | (rw [tkA, if_pos c46, ← hty]) | (rw [tkA, if_neg c46, ← hty])) (by omega) _ _ ls hP hD hS (lv_sub hl [3, 4, 2, 1, 0] rfl)
          · skip
            refine lv_iconst (v := (0 : Int32)) hx hb dX5_takeLine_49 (by decide) ?_
            refine lv_goto (tgt := 62) hx hb dX5_takeLine_50 (by decide) ?_
            refine lv_ior hx hb dX5_takeLine_62 ?_
            refine lv_istore_n (lv' := [(3, .int (y ||| (0 : Int32))), (2, .int (pa.2 24 k)), (0, .ref (h 0)), (1, .int lett), (4, .int (nI k))]) hx hb dX5_takeLine_63 rfl hl (by decide) rfl (fun ls hl => ?_)
            refine lv_iinc (v := nI (k + 1)) (lv' := [(4, .int (nI (k + 1))), (3, .int (y ||| (0 : Int32))), (2, .int (pa.2 24 k)), (0, .ref (h 0)), (1, .int lett)]) hx hb dX5_takeLine_64 hl (k := 4) rfl (nI_1 k) (by decide) rfl (fun ls hl => ?_)
            refine lv_goto (tgt := 7) hx hb dX5_takeLine_67 (by decide) ?_
            exact ih7 (k + 1) (pa.2 24 k) (y ||| (0 : Int32)) (by first | assumption | omega) (by first | (rw [brA, if_pos c23]; exact hbx) | (rw [brA, if_neg c23])) (by first | (rw [tkA, if_pos c46, ← hty]) | (rw [tkA, if_neg c46, ← hty])) (by omega) _ _ ls hP hD hS (lv_sub hl [3, 4, 2, 1, 0] rfl)
  exact LP7 (pa.1 23 - 0 + 1) 0 (-1 : Int32) (nI 0) (by first | assumption | omega) (rfl) (rfl) (Nat.lt_succ_self _) _ _ ls hP hD hS (lv_sub hl [3, 4, 2, 1, 0] rfl)
set_option maxHeartbeats 1000000 in
set_option maxRecDepth 100000 in
theorem mt_X5_takeItem (l : Launch) (G : gG) (h : Nat → Nat) (sz : Nat) (u : oS) (lt : Int64) (sj : Nat → Int64) (nt : Nat) (tx : Nat → Int32) (pa : pS) (z : Int32) (hnt : u.1 10 = nI nt) (q240h : nt ≤ 240) (hs : RSm u nt pa) (htx : u.2 9 = tx) (hAl : pa.1 12 < nt) (hno : sk tx nt (pa.1 12) = pa.1 12) : Met l yX5_takeItem wsX5_takeItem ({ frames := 5, cells := 0, slots := 0, locals := 112 }) (preW G (mw G h u lt sj) sz [.ref (h 0), .int z]) (va_Qi (fun (r : Int32) (v : oS × Int64 × (Nat → Int64)) => (∃ w s2, v = (w, lt, sj) ∧ rdW u w ∧ iST tx nt (decide (¬ z = 0)) pa = (0, 0, s2) ∧ RSm w nt s2 ∧ pa.1 12 < s2.1 12 ∧ w.1 11 = u.1 11 ∧ r = nI 0) ∨ (∃ w f p s2, v = (w, lt, sj) ∧ rdW u w ∧ iST tx nt (decide (¬ z = 0)) pa = (f, p, s2) ∧ w.1 11 = nI p ∧ 0 < f ∧ f ≤ 4 ∧ r = nI f)) (fun v t => PP G (mw G h v.1 v.2.1 v.2.2) t.heap) (va_A (mw G h u lt sj) sz)) 0 0 (va_A (mw G h u lt sj) sz) := by
  refine Met.ofW (cc := cX5_takeItem) (maxL := 3) (ret := (some .int)) (by decide) rfl ?_
  intro p e s m args below meth c s₁ B hml hv
  obtain ⟨ha, hsz, hP, hK, hN, hD0⟩ := hv
  subst ha
  have hx := B.exec
  have hb := B.bytes
  have hr := B.returns
  have hts := atoms_spec (ws := wsX5_takeItem) B.pre
  have hown : s.vm.findClass RX5 = some m.cls := findClass_of_methodNamed B.named
  have hlocks := B.notSynchronized
  subst hsz
  have hD := hD0.self (sz := s.heap.size)
  generalize hAe : va_A (mw G h u lt sj) s.heap.size = A at hD ⊢
  have hA : ∀ q : Nat, s.heap.size ≤ q → A q := fun q h => by rw [← hAe]; exact Or.inr h
  clear hAe hD0
  have hS : va_S A s.heap s.heap [] := va_S.rf
  have hiX5 : ∀ w ∈ wsX50, w ∈ wsX5_takeItem := fun w h9 => List.mem_cons_of_mem _ (List.mem_append_right _ (h9))
  have k143 := hts (.fieldLink RX5 143 "WovenHistoryModel" "deep" "I") (List.mem_of_getElem? (i := 3) rfl)
  have k105 := hts (.fieldLink RX5 105 "WovenHistoryModel" "at0" "I") (List.mem_of_getElem? (i := 4) rfl)
  have hl := lv_entry ([.ref (h 0), .int z]) (n := 3) (Nat.le_of_ble_eq_true rfl)
  rw [lg_entry_eq]
  generalize (lg_sl ([.ref (h 0), .int z]) ++ List.replicate (3 - (lg_sl ([.ref (h 0), .int z])).length) Slot.unset).toArray = ls at hl ⊢
  have hl : lv_has ls 3 [(0, .ref (h 0)), (1, .int z)] := hl
  obtain ⟨e10, e12, e15, e19, e23, ⟨q240, qa, qv, ql, qd, qpar⟩, hrw⟩ := id hs
  refine lv_aload_n hx hb dX5_takeItem_0 rfl (lv_at hl 0 rfl) ?_
  refine cXi (As := []) (rest := []) (S := oS × Int64 × (Nat → Int64)) (wa := mw G h u lt sj) (w1 := fun v => mw G h v.1 v.2.1 v.2.2) ⟨hx, hb, hml, hown, hts⟩ (mt_X5_here l G h _ u lt sj nt (pa.1 12) tx (hnt) (e12) (by first | assumption | omega) (by first | assumption | omega) (htx)) (cwV 0 hts gX5_takeItem_X5_here rfl rfl rfl ⟨rfl, hd_X5_here⟩ ⟨Nat.le_of_ble_eq_true rfl, Nat.le_of_ble_eq_true rfl⟩) hK hN hP hD hS hA (fun _ => rfl) 0 5 rfl rfl rfl hl.1 rfl (Nat.le_of_ble_eq_true rfl) ⟨Nat.zero_le _, Nat.zero_le _⟩ dX5_takeItem_1 (fun r1 u1 H locs hw1 hP hD hS => ?_)
  obtain ⟨rfl, rfl⟩ := hw1
  have hP : PP G (mw G h (oI u 12 (nI (sk tx nt (pa.1 12)))) lt sj) H := hP
  have hD : va_D A (mw G h (oI u 12 (nI (sk tx nt (pa.1 12)))) lt sj) := hD
  have hge1 : (pa.1 12) ≤ sk tx nt (pa.1 12) := rn_ge _
  have hle1 : sk tx nt (pa.1 12) ≤ nt := rn_le (by omega)
  rw [hno] at hP hD ⊢
  refine lv_istore_n (lv' := [(2, .int (hd tx nt (pa.1 12))), (0, .ref (h 0)), (1, .int z)]) hx hb dX5_takeItem_4 rfl hl (by decide) rfl (fun ls hl => ?_)
  refine lv_iload_n hx hb dX5_takeItem_5 rfl (lv_at hl 0 rfl) ?_
  refine lv_bipush (v := nI 118) hx hb dX5_takeItem_6 (by decide) ?_
  refine lv_icmp_ne (tgt := 20) hx hb dX5_takeItem_8 (by decide) (fun c8 => ?_) (fun c8 => ?_)
  · skip
    refine lv_iload_n hx hb dX5_takeItem_20 rfl (lv_at hl 0 rfl) ?_
    refine lv_bipush (v := nI 105) hx hb dX5_takeItem_21 (by decide) ?_
    refine lv_icmp_eq (tgt := 32) hx hb dX5_takeItem_23 (by decide) (fun c23 => ?_) (fun c23 => ?_)
    · skip
      refine lv_aload_n hx hb dX5_takeItem_32 rfl (lv_at hl 1 rfl) ?_
      refine lv_iload_n hx hb dX5_takeItem_33 rfl (lv_at hl 0 rfl) ?_
      refine lv_bipush (v := nI 105) hx hb dX5_takeItem_34 (by decide) ?_
      refine lv_icmp_ne (tgt := 43) hx hb dX5_takeItem_36 (by decide) (fun c36 => ?_) (fun c36 => ?_)
      · skip
        exact absurd c23 c36
      · skip
        refine lv_iconst (v := nI 1) hx hb dX5_takeItem_39 (by decide) ?_
        refine lv_goto (tgt := 44) hx hb dX5_takeItem_40 (by decide) ?_
        refine cXi (As := [.int (nI 1)]) (rest := []) (S := oS × Int64 × (Nat → Int64)) (wa := mw G h (oI u 12 (nI (pa.1 12))) lt sj) (w1 := fun v => mw G h v.1 v.2.1 v.2.2) ⟨hx, hb, hml, hown, hts⟩ (mt_X5_takeBlock l G h _ (oI u 12 (nI (pa.1 12))) lt sj nt tx pa (nI 1) (hnt) (by first | assumption | omega) (⟨e10, rfl, e15, e19, e23, ⟨q240, qa, qv, ql, qd, qpar⟩, hrw⟩) (htx) (by first | assumption | omega) (by decide)) (cwV 1 hts gX5_takeItem_X5_takeBlock rfl rfl rfl ⟨rfl, hd_X5_takeBlock⟩ ⟨Nat.le_of_ble_eq_true rfl, Nat.le_of_ble_eq_true rfl⟩) hK hN hP hD hS hA (fun _ => rfl) 0 5 rfl rfl rfl hl.1 rfl (Nat.le_of_ble_eq_true rfl) ⟨Nat.zero_le _, Nat.zero_le _⟩ dX5_takeItem_44 (fun r44 u44 H locs hw44 hP hD hS => ?_)
        rcases hw44 with ⟨w44, s44, rfl, hR44, hQ44, hS44, ha44, e1144, rfl⟩ | ⟨w44, f44, p44, s44, rfl, hR44, hQ44, e1144, hf44, hg44, rfl⟩
        · skip
          have hP : PP G (mw G h w44 lt sj) H := hP
          have hD : va_D A (mw G h w44 lt sj) := hD
          have htx44 : w44.2 9 = tx := (hR44.2 9 (by decide)).trans (htx)
          exact W.iret (v := nI 0) hx hb hr (fun t ht hW => ⟨⟨nI 0, (w44, lt, sj), rfl, Or.inl ⟨w44, s44, rfl, by repeat (first | exact rel.refl _ | exact rel.mono (by assumption) (by decide) (by decide) | refine rel.I (by decide) ?_ | refine rel.A (by decide) ?_ | refine rel.trans ?_ (rel.mono (by assumption) (by decide) (by decide))), (iST_i c23).trans hQ44, hS44, ha44, e1144, rfl⟩, show PP G (mw G h w44 lt sj) t.heap by rw [ht]; exact hP⟩, hS.F ht⟩) hS.2.2 dX5_takeItem_47
        · skip
          have hP : PP G (mw G h w44 lt sj) H := hP
          have hD : va_D A (mw G h w44 lt sj) := hD
          have htx44 : w44.2 9 = tx := (hR44.2 9 (by decide)).trans (htx)
          exact W.iret (v := nI (f44)) hx hb hr (fun t ht hW => ⟨⟨nI (f44), (w44, lt, sj), rfl, Or.inr ⟨w44, f44, p44, s44, rfl, by repeat (first | exact rel.refl _ | exact rel.mono (by assumption) (by decide) (by decide) | refine rel.I (by decide) ?_ | refine rel.A (by decide) ?_ | refine rel.trans ?_ (rel.mono (by assumption) (by decide) (by decide))), (iST_i c23).trans hQ44, e1144, hf44, hg44, rfl⟩, show PP G (mw G h w44 lt sj) t.heap by rw [ht]; exact hP⟩, hS.F ht⟩) hS.2.2 dX5_takeItem_47
    · skip
      refine lv_iload_n hx hb dX5_takeItem_26 rfl (lv_at hl 0 rfl) ?_
      refine lv_bipush (v := nI 100) hx hb dX5_takeItem_27 (by decide) ?_
      refine lv_icmp_ne (tgt := 48) hx hb dX5_takeItem_29 (by decide) (fun c29 => ?_) (fun c29 => ?_)
      · skip
        refine lv_iload_n hx hb dX5_takeItem_48 rfl (lv_at hl 0 rfl) ?_
        refine lv_i2l (v := (hd tx nt (pa.1 12)).toInt64) hx hb dX5_takeItem_49 rfl ?_
        refine lv_ldc2 (v := 65) hx hb hown (hts (.constantLong RX5 160 (65)) (List.mem_of_getElem? (i := 1) rfl)) dX5_takeItem_50 ?_
        refine lv_ldc2 (v := 90) hx hb hown (hts (.constantLong RX5 162 (90)) (List.mem_of_getElem? (i := 2) rfl)) dX5_takeItem_53 ?_
        refine cSi (As := [.long ((hd tx nt (pa.1 12)).toInt64), .long 65, .long 90]) (rest := []) ⟨hx, hb, hml, hown, hts⟩ (mt_X5_in l ((hd tx nt (pa.1 12)).toInt64) 65 90) (va_cwS 3 hts gX5_takeItem_X5_in rfl rfl rfl hd_X5_in ⟨Nat.le_of_ble_eq_true rfl, Nat.le_of_ble_eq_true rfl⟩) rfl hl.1 rfl (Nat.le_of_ble_eq_true rfl) ⟨Nat.zero_le _, Nat.zero_le _⟩ dX5_takeItem_56 (fun r56 hw56 => ?_)
        rcases hw56 with ⟨rfl, ha56, hb56⟩ | ⟨rfl, hn56⟩
        · skip
          refine lv_if_eq (tgt := 68) hx hb dX5_takeItem_59 (by decide) (fun c9 => absurd c9 (by decide)) (fun _ => ?_)
          refine lv_aload_n hx hb dX5_takeItem_62 rfl (lv_at hl 1 rfl) ?_
          refine lv_iload_n hx hb dX5_takeItem_63 rfl (lv_at hl 0 rfl) ?_
          refine cXi (As := [.int (hd tx nt (pa.1 12))]) (rest := []) (S := oS × Int64 × (Nat → Int64)) (wa := mw G h (oI u 12 (nI (pa.1 12))) lt sj) (w1 := fun v => mw G h v.1 v.2.1 v.2.2) ⟨hx, hb, hml, hown, hts⟩ (mt_X5_takeLine l G h _ (oI u 12 (nI (pa.1 12))) lt sj nt tx pa (hd tx nt (pa.1 12)) (hnt) (by first | assumption | omega) (⟨e10, rfl, e15, e19, e23, ⟨q240, qa, qv, ql, qd, qpar⟩, hrw⟩) (htx) (by first | assumption | omega)) (cwV 1 hts gX5_takeItem_X5_takeLine rfl rfl rfl ⟨rfl, hd_X5_takeLine⟩ ⟨Nat.le_of_ble_eq_true rfl, Nat.le_of_ble_eq_true rfl⟩) hK hN hP hD hS hA (fun _ => rfl) 0 5 rfl rfl rfl hl.1 rfl (Nat.le_of_ble_eq_true rfl) ⟨Nat.zero_le _, Nat.zero_le _⟩ dX5_takeItem_64 (fun r64 u64 H locs hw64 hP hD hS => ?_)
          rcases hw64 with ⟨w64, s64, rfl, hR64, hQ64, hS64, ha64, e1164, rfl⟩ | ⟨w64, f64, p64, s64, rfl, hR64, hQ64, e1164, hf64, hg64, rfl⟩
          · skip
            have hP : PP G (mw G h w64 lt sj) H := hP
            have hD : va_D A (mw G h w64 lt sj) := hD
            have htx64 : w64.2 9 = tx := (hR64.2 9 (by decide)).trans (htx)
            exact W.iret (v := nI 0) hx hb hr (fun t ht hW => ⟨⟨nI 0, (w64, lt, sj), rfl, Or.inl ⟨w64, s64, rfl, by repeat (first | exact rel.refl _ | exact rel.mono (by assumption) (by decide) (by decide) | refine rel.I (by decide) ?_ | refine rel.A (by decide) ?_ | refine rel.trans ?_ (rel.mono (by assumption) (by decide) (by decide))), (iST_l (by first | exact fun q => absurd q.1 (by assumption) | exact fun q => absurd (of_decide_eq_true q.2) (not_not_intro c12)) c23 c29 (sgn_64.mpr ⟨ha56, hb56⟩)).trans hQ64, hS64, ha64, e1164, rfl⟩, show PP G (mw G h w64 lt sj) t.heap by rw [ht]; exact hP⟩, hS.F ht⟩) hS.2.2 dX5_takeItem_67
          · skip
            have hP : PP G (mw G h w64 lt sj) H := hP
            have hD : va_D A (mw G h w64 lt sj) := hD
            have htx64 : w64.2 9 = tx := (hR64.2 9 (by decide)).trans (htx)
            exact W.iret (v := nI (f64)) hx hb hr (fun t ht hW => ⟨⟨nI (f64), (w64, lt, sj), rfl, Or.inr ⟨w64, f64, p64, s64, rfl, by repeat (first | exact rel.refl _ | exact rel.mono (by assumption) (by decide) (by decide) | refine rel.I (by decide) ?_ | refine rel.A (by decide) ?_ | refine rel.trans ?_ (rel.mono (by assumption) (by decide) (by decide))), (iST_l (by first | exact fun q => absurd q.1 (by assumption) | exact fun q => absurd (of_decide_eq_true q.2) (not_not_intro c12)) c23 c29 (sgn_64.mpr ⟨ha56, hb56⟩)).trans hQ64, e1164, hf64, hg64, rfl⟩, show PP G (mw G h w64 lt sj) t.heap by rw [ht]; exact hP⟩, hS.F ht⟩) hS.2.2 dX5_takeItem_67
        · skip
          refine lv_if_eq (tgt := 68) hx hb dX5_takeItem_59 (by decide) (fun _ => ?_) (fun c9 => absurd (by decide) c9)
          refine lv_iload_n hx hb dX5_takeItem_68 rfl (lv_at hl 0 rfl) ?_
          refine lv_bipush (v := nI 41) hx hb dX5_takeItem_69 (by decide) ?_
          refine lv_icmp_ne (tgt := 103) hx hb dX5_takeItem_71 (by decide) (fun c71 => ?_) (fun c71 => ?_)
          · skip
            refine lv_aload_n hx hb dX5_takeItem_103 rfl (lv_at hl 1 rfl) ?_
            refine lv_iconst (v := nI 1) hx hb dX5_takeItem_104 (by decide) ?_
            refine lv_aload_n hx hb dX5_takeItem_105 rfl (lv_at hl 1 rfl) ?_
            refine va_get (D := gD G) (ci := 5) (v := .int (nI (pa.1 12))) (C := RX5) (T := TX5) (N := 38) hx hb hts hiX5 hown hK hP 0 rfl rfl 12 (by decide) k105 (fun _ h9 => h9) rfl dX5_takeItem_106 ?_
            refine cXi (As := [.int (nI 1), .int (nI (pa.1 12))]) (rest := []) (S := oS × Int64 × (Nat → Int64)) (wa := mw G h (oI u 12 (nI (pa.1 12))) lt sj) (w1 := fun v => mw G h v.1 v.2.1 v.2.2) ⟨hx, hb, hml, hown, hts⟩ (mt_X5_fails l G h _ (oI u 12 (nI (pa.1 12))) lt sj (nI 1) (nI (pa.1 12))) (cwV 2 hts gX5_takeItem_X5_fails rfl rfl rfl ⟨rfl, hd_X5_fails⟩ ⟨Nat.le_of_ble_eq_true rfl, Nat.le_of_ble_eq_true rfl⟩) hK hN hP hD hS hA (fun _ => rfl) 0 5 rfl rfl rfl hl.1 rfl (Nat.le_of_ble_eq_true rfl) ⟨Nat.zero_le _, Nat.zero_le _⟩ dX5_takeItem_109 (fun r109 u109 H locs hw109 hP hD hS => ?_)
            obtain ⟨rfl, rfl⟩ := hw109
            have hP : PP G (mw G h (oI (oI u 12 (nI (pa.1 12))) 11 (nI (pa.1 12))) lt sj) H := hP
            have hD : va_D A (mw G h (oI (oI u 12 (nI (pa.1 12))) 11 (nI (pa.1 12))) lt sj) := hD
            exact W.iret (v := nI 1) hx hb hr (fun t ht hW => ⟨⟨nI 1, (oI (oI u 12 (nI (pa.1 12))) 11 (nI (pa.1 12)), lt, sj), rfl, Or.inr ⟨_, 1, (pa.1 12), pa, rfl, by repeat (first | exact rel.refl _ | exact rel.mono (by assumption) (by decide) (by decide) | refine rel.I (by decide) ?_ | refine rel.A (by decide) ?_ | refine rel.trans ?_ (rel.mono (by assumption) (by decide) (by decide))), iST_1 (by first | exact fun q => absurd q.1 (by assumption) | exact fun q => absurd (of_decide_eq_true q.2) (not_not_intro c12)) c23 c29 (sgn_n hn56) (fun q => by first | exact absurd q.1 c71 | (have := q.2; omega)), rfl, by omega, by omega, rfl⟩, show PP G (mw G h (oI (oI u 12 (nI (pa.1 12))) 11 (nI (pa.1 12))) lt sj) t.heap by rw [ht]; exact hP⟩, hS.F ht⟩) hS.2.2 dX5_takeItem_112
          · skip
            refine lv_aload_n hx hb dX5_takeItem_74 rfl (lv_at hl 1 rfl) ?_
            refine va_get (D := gD G) (ci := 5) (v := .int ((oI u 12 (nI (pa.1 12))).1 23)) (C := RX5) (T := TX5) (N := 38) hx hb hts hiX5 hown hK hP 0 rfl rfl 23 (by decide) k143 (fun _ h9 => h9) rfl dX5_takeItem_75 ?_
            refine topE e23 ?_
            refine lv_if_le (tgt := 103) hx hb dX5_takeItem_78 (by decide) (fun c78 => ?_) (fun c78 => ?_)
            · skip
              have n78 : (pa.1 23) ≤ 0 := (nI_leI (a := pa.1 23) (b := 0) (by omega) (by omega)).mp c78
              refine lv_aload_n hx hb dX5_takeItem_103 rfl (lv_at hl 1 rfl) ?_
              refine lv_iconst (v := nI 1) hx hb dX5_takeItem_104 (by decide) ?_
              refine lv_aload_n hx hb dX5_takeItem_105 rfl (lv_at hl 1 rfl) ?_
              refine va_get (D := gD G) (ci := 5) (v := .int (nI (pa.1 12))) (C := RX5) (T := TX5) (N := 38) hx hb hts hiX5 hown hK hP 0 rfl rfl 12 (by decide) k105 (fun _ h9 => h9) rfl dX5_takeItem_106 ?_
              refine cXi (As := [.int (nI 1), .int (nI (pa.1 12))]) (rest := []) (S := oS × Int64 × (Nat → Int64)) (wa := mw G h (oI u 12 (nI (pa.1 12))) lt sj) (w1 := fun v => mw G h v.1 v.2.1 v.2.2) ⟨hx, hb, hml, hown, hts⟩ (mt_X5_fails l G h _ (oI u 12 (nI (pa.1 12))) lt sj (nI 1) (nI (pa.1 12))) (cwV 2 hts gX5_takeItem_X5_fails rfl rfl rfl ⟨rfl, hd_X5_fails⟩ ⟨Nat.le_of_ble_eq_true rfl, Nat.le_of_ble_eq_true rfl⟩) hK hN hP hD hS hA (fun _ => rfl) 0 5 rfl rfl rfl hl.1 rfl (Nat.le_of_ble_eq_true rfl) ⟨Nat.zero_le _, Nat.zero_le _⟩ dX5_takeItem_109 (fun r109 u109 H locs hw109 hP hD hS => ?_)
              obtain ⟨rfl, rfl⟩ := hw109
              have hP : PP G (mw G h (oI (oI u 12 (nI (pa.1 12))) 11 (nI (pa.1 12))) lt sj) H := hP
              have hD : va_D A (mw G h (oI (oI u 12 (nI (pa.1 12))) 11 (nI (pa.1 12))) lt sj) := hD
              exact W.iret (v := nI 1) hx hb hr (fun t ht hW => ⟨⟨nI 1, (oI (oI u 12 (nI (pa.1 12))) 11 (nI (pa.1 12)), lt, sj), rfl, Or.inr ⟨_, 1, (pa.1 12), pa, rfl, by repeat (first | exact rel.refl _ | exact rel.mono (by assumption) (by decide) (by decide) | refine rel.I (by decide) ?_ | refine rel.A (by decide) ?_ | refine rel.trans ?_ (rel.mono (by assumption) (by decide) (by decide))), iST_1 (by first | exact fun q => absurd q.1 (by assumption) | exact fun q => absurd (of_decide_eq_true q.2) (not_not_intro c12)) c23 c29 (sgn_n hn56) (fun q => by first | exact absurd q.1 c71 | (have := q.2; omega)), rfl, by omega, by omega, rfl⟩, show PP G (mw G h (oI (oI u 12 (nI (pa.1 12))) 11 (nI (pa.1 12))) lt sj) t.heap by rw [ht]; exact hP⟩, hS.F ht⟩) hS.2.2 dX5_takeItem_112
            · skip
              have n78 : ¬ ((pa.1 23) ≤ 0) := fun q9 => c78 ((nI_leI (a := pa.1 23) (b := 0) (by omega) (by omega)).mpr q9)
              refine lv_aload_n hx hb dX5_takeItem_81 rfl (lv_at hl 1 rfl) ?_
              refine lv_dup hx hb dX5_takeItem_82 rfl ?_
              refine va_get (D := gD G) (ci := 5) (v := .int ((oI u 12 (nI (pa.1 12))).1 23)) (C := RX5) (T := TX5) (N := 38) hx hb hts hiX5 hown hK hP 0 rfl rfl 23 (by decide) k143 (fun _ h9 => h9) rfl dX5_takeItem_83 ?_
              refine topE e23 ?_
              refine lv_iconst (v := nI 1) hx hb dX5_takeItem_86 (by decide) ?_
              refine lv_isub hx hb dX5_takeItem_87 ?_
              refine topE (y := nI ((pa.1 23) - 1)) (pk_sub (by omega)) ?_
              refine va_put (D := gD G) (ci := 5) (v := .int (nI ((pa.1 23) - 1))) (ty := .int) (C := RX5) (T := TX5) (N := 38) hx hb hts hiX5 tyX5 tyX5_ok nmX5 hown hK hP hD hS 0 rfl rfl 23 (by decide) k143 (fun _ h9 => h9) rfl (tyX5_ok 23 (by decide)) (rfl) (rfl) (Nat.le_of_ble_eq_true rfl) dX5_takeItem_88 (fun H locs hP hD hS => ?_)
              have hP : PP G (mw G h (oI (oI u 12 (nI (pa.1 12))) 23 (nI ((pa.1 23) - 1))) lt sj) H := hP
              have hD : va_D A (mw G h (oI (oI u 12 (nI (pa.1 12))) 23 (nI ((pa.1 23) - 1))) lt sj) := hD
              refine lv_aload_n hx hb dX5_takeItem_91 rfl (lv_at hl 1 rfl) ?_
              refine lv_dup hx hb dX5_takeItem_92 rfl ?_
              refine va_get (D := gD G) (ci := 5) (v := .int (nI (pa.1 12))) (C := RX5) (T := TX5) (N := 38) hx hb hts hiX5 hown hK hP 0 rfl rfl 12 (by decide) k105 (fun _ h9 => h9) rfl dX5_takeItem_93 ?_
              refine lv_iconst (v := nI 1) hx hb dX5_takeItem_96 (by decide) ?_
              refine lv_iadd hx hb dX5_takeItem_97 ?_
              refine topE (y := nI ((pa.1 12) + 1)) (nI_add (pa.1 12) 1) ?_
              refine va_put (D := gD G) (ci := 5) (v := .int (nI ((pa.1 12) + 1))) (ty := .int) (C := RX5) (T := TX5) (N := 38) hx hb hts hiX5 tyX5 tyX5_ok nmX5 hown hK hP hD hS 0 rfl rfl 12 (by decide) k105 (fun _ h9 => h9) rfl (tyX5_ok 12 (by decide)) (rfl) (rfl) (Nat.le_of_ble_eq_true rfl) dX5_takeItem_98 (fun H locs hP hD hS => ?_)
              have hP : PP G (mw G h (oI (oI (oI u 12 (nI (pa.1 12))) 23 (nI ((pa.1 23) - 1))) 12 (nI ((pa.1 12) + 1))) lt sj) H := hP
              have hD : va_D A (mw G h (oI (oI (oI u 12 (nI (pa.1 12))) 23 (nI ((pa.1 23) - 1))) 12 (nI ((pa.1 12) + 1))) lt sj) := hD
              refine lv_iconst (v := nI 0) hx hb dX5_takeItem_101 (by decide) ?_
              exact W.iret (v := nI 0) hx hb hr (fun t ht hW => ⟨⟨nI 0, (oI (oI (oI u 12 (nI (pa.1 12))) 23 (nI ((pa.1 23) - 1))) 12 (nI ((pa.1 12) + 1)), lt, sj), rfl, by
                                        have HQ : iST tx nt (decide (¬ z = 0)) pa = (0, 0, cOK pa) := iST_c c71 (by omega)
                                        exact Or.inl ⟨_, cOK pa, rfl, by repeat (first | exact rel.refl _ | exact rel.mono (by assumption) (by decide) (by decide) | refine rel.I (by decide) ?_ | refine rel.A (by decide) ?_ | refine rel.trans ?_ (rel.mono (by assumption) (by decide) (by decide))), HQ, ⟨hnt, rfl, e15, e19, rfl, ⟨q240, (show (pa.1 12) + 1 ≤ nt by omega), (show pa.1 15 ≤ 24 by omega), (show pa.1 19 ≤ 120 by omega), (show (pa.1 23) - 1 ≤ (pa.1 12) + 1 by omega), qpar⟩, RwM_c hrw rfl rfl rfl rfl rfl rfl rfl rfl⟩, (show pa.1 12 < (pa.1 12) + 1 by omega), rfl, rfl⟩, show PP G (mw G h (oI (oI (oI u 12 (nI (pa.1 12))) 23 (nI ((pa.1 23) - 1))) 12 (nI ((pa.1 12) + 1))) lt sj) t.heap by rw [ht]; exact hP⟩, hS.F ht⟩) hS.2.2 dX5_takeItem_102
      · skip
        refine lv_aload_n hx hb dX5_takeItem_32 rfl (lv_at hl 1 rfl) ?_
        refine lv_iload_n hx hb dX5_takeItem_33 rfl (lv_at hl 0 rfl) ?_
        refine lv_bipush (v := nI 105) hx hb dX5_takeItem_34 (by decide) ?_
        refine lv_icmp_ne (tgt := 43) hx hb dX5_takeItem_36 (by decide) (fun c36 => ?_) (fun c36 => ?_)
        · skip
          refine lv_iconst (v := nI 0) hx hb dX5_takeItem_43 (by decide) ?_
          refine cXi (As := [.int (nI 0)]) (rest := []) (S := oS × Int64 × (Nat → Int64)) (wa := mw G h (oI u 12 (nI (pa.1 12))) lt sj) (w1 := fun v => mw G h v.1 v.2.1 v.2.2) ⟨hx, hb, hml, hown, hts⟩ (mt_X5_takeBlock l G h _ (oI u 12 (nI (pa.1 12))) lt sj nt tx pa (nI 0) (hnt) (by first | assumption | omega) (⟨e10, rfl, e15, e19, e23, ⟨q240, qa, qv, ql, qd, qpar⟩, hrw⟩) (htx) (by first | assumption | omega) (by decide)) (cwV 1 hts gX5_takeItem_X5_takeBlock rfl rfl rfl ⟨rfl, hd_X5_takeBlock⟩ ⟨Nat.le_of_ble_eq_true rfl, Nat.le_of_ble_eq_true rfl⟩) hK hN hP hD hS hA (fun _ => rfl) 0 5 rfl rfl rfl hl.1 rfl (Nat.le_of_ble_eq_true rfl) ⟨Nat.zero_le _, Nat.zero_le _⟩ dX5_takeItem_44 (fun r44 u44 H locs hw44 hP hD hS => ?_)
          rcases hw44 with ⟨w44, s44, rfl, hR44, hQ44, hS44, ha44, e1144, rfl⟩ | ⟨w44, f44, p44, s44, rfl, hR44, hQ44, e1144, hf44, hg44, rfl⟩
          · skip
            have hP : PP G (mw G h w44 lt sj) H := hP
            have hD : va_D A (mw G h w44 lt sj) := hD
            have htx44 : w44.2 9 = tx := (hR44.2 9 (by decide)).trans (htx)
            exact W.iret (v := nI 0) hx hb hr (fun t ht hW => ⟨⟨nI 0, (w44, lt, sj), rfl, Or.inl ⟨w44, s44, rfl, by repeat (first | exact rel.refl _ | exact rel.mono (by assumption) (by decide) (by decide) | refine rel.I (by decide) ?_ | refine rel.A (by decide) ?_ | refine rel.trans ?_ (rel.mono (by assumption) (by decide) (by decide))), (iST_d c29).trans hQ44, hS44, ha44, e1144, rfl⟩, show PP G (mw G h w44 lt sj) t.heap by rw [ht]; exact hP⟩, hS.F ht⟩) hS.2.2 dX5_takeItem_47
          · skip
            have hP : PP G (mw G h w44 lt sj) H := hP
            have hD : va_D A (mw G h w44 lt sj) := hD
            have htx44 : w44.2 9 = tx := (hR44.2 9 (by decide)).trans (htx)
            exact W.iret (v := nI (f44)) hx hb hr (fun t ht hW => ⟨⟨nI (f44), (w44, lt, sj), rfl, Or.inr ⟨w44, f44, p44, s44, rfl, by repeat (first | exact rel.refl _ | exact rel.mono (by assumption) (by decide) (by decide) | refine rel.I (by decide) ?_ | refine rel.A (by decide) ?_ | refine rel.trans ?_ (rel.mono (by assumption) (by decide) (by decide))), (iST_d c29).trans hQ44, e1144, hf44, hg44, rfl⟩, show PP G (mw G h w44 lt sj) t.heap by rw [ht]; exact hP⟩, hS.F ht⟩) hS.2.2 dX5_takeItem_47
        · skip
          exact absurd c36 c23
  · skip
    refine lv_iload_n hx hb dX5_takeItem_11 rfl (lv_at hl 2 rfl) ?_
    refine lv_if_eq (tgt := 20) hx hb dX5_takeItem_12 (by decide) (fun c12 => ?_) (fun c12 => ?_)
    · skip
      refine lv_iload_n hx hb dX5_takeItem_20 rfl (lv_at hl 0 rfl) ?_
      refine lv_bipush (v := nI 105) hx hb dX5_takeItem_21 (by decide) ?_
      refine lv_icmp_eq (tgt := 32) hx hb dX5_takeItem_23 (by decide) (fun c23 => ?_) (fun c23 => ?_)
      · skip
        refine lv_aload_n hx hb dX5_takeItem_32 rfl (lv_at hl 1 rfl) ?_
        refine lv_iload_n hx hb dX5_takeItem_33 rfl (lv_at hl 0 rfl) ?_
        refine lv_bipush (v := nI 105) hx hb dX5_takeItem_34 (by decide) ?_
        refine lv_icmp_ne (tgt := 43) hx hb dX5_takeItem_36 (by decide) (fun c36 => ?_) (fun c36 => ?_)
        · skip
          exact absurd c23 c36
        · skip
          refine lv_iconst (v := nI 1) hx hb dX5_takeItem_39 (by decide) ?_
          refine lv_goto (tgt := 44) hx hb dX5_takeItem_40 (by decide) ?_
          refine cXi (As := [.int (nI 1)]) (rest := []) (S := oS × Int64 × (Nat → Int64)) (wa := mw G h (oI u 12 (nI (pa.1 12))) lt sj) (w1 := fun v => mw G h v.1 v.2.1 v.2.2) ⟨hx, hb, hml, hown, hts⟩ (mt_X5_takeBlock l G h _ (oI u 12 (nI (pa.1 12))) lt sj nt tx pa (nI 1) (hnt) (by first | assumption | omega) (⟨e10, rfl, e15, e19, e23, ⟨q240, qa, qv, ql, qd, qpar⟩, hrw⟩) (htx) (by first | assumption | omega) (by decide)) (cwV 1 hts gX5_takeItem_X5_takeBlock rfl rfl rfl ⟨rfl, hd_X5_takeBlock⟩ ⟨Nat.le_of_ble_eq_true rfl, Nat.le_of_ble_eq_true rfl⟩) hK hN hP hD hS hA (fun _ => rfl) 0 5 rfl rfl rfl hl.1 rfl (Nat.le_of_ble_eq_true rfl) ⟨Nat.zero_le _, Nat.zero_le _⟩ dX5_takeItem_44 (fun r44 u44 H locs hw44 hP hD hS => ?_)
          rcases hw44 with ⟨w44, s44, rfl, hR44, hQ44, hS44, ha44, e1144, rfl⟩ | ⟨w44, f44, p44, s44, rfl, hR44, hQ44, e1144, hf44, hg44, rfl⟩
          · skip
            have hP : PP G (mw G h w44 lt sj) H := hP
            have hD : va_D A (mw G h w44 lt sj) := hD
            have htx44 : w44.2 9 = tx := (hR44.2 9 (by decide)).trans (htx)
            exact W.iret (v := nI 0) hx hb hr (fun t ht hW => ⟨⟨nI 0, (w44, lt, sj), rfl, Or.inl ⟨w44, s44, rfl, by repeat (first | exact rel.refl _ | exact rel.mono (by assumption) (by decide) (by decide) | refine rel.I (by decide) ?_ | refine rel.A (by decide) ?_ | refine rel.trans ?_ (rel.mono (by assumption) (by decide) (by decide))), (iST_i c23).trans hQ44, hS44, ha44, e1144, rfl⟩, show PP G (mw G h w44 lt sj) t.heap by rw [ht]; exact hP⟩, hS.F ht⟩) hS.2.2 dX5_takeItem_47
          · skip
            have hP : PP G (mw G h w44 lt sj) H := hP
            have hD : va_D A (mw G h w44 lt sj) := hD
            have htx44 : w44.2 9 = tx := (hR44.2 9 (by decide)).trans (htx)
            exact W.iret (v := nI (f44)) hx hb hr (fun t ht hW => ⟨⟨nI (f44), (w44, lt, sj), rfl, Or.inr ⟨w44, f44, p44, s44, rfl, by repeat (first | exact rel.refl _ | exact rel.mono (by assumption) (by decide) (by decide) | refine rel.I (by decide) ?_ | refine rel.A (by decide) ?_ | refine rel.trans ?_ (rel.mono (by assumption) (by decide) (by decide))), (iST_i c23).trans hQ44, e1144, hf44, hg44, rfl⟩, show PP G (mw G h w44 lt sj) t.heap by rw [ht]; exact hP⟩, hS.F ht⟩) hS.2.2 dX5_takeItem_47
      · skip
        refine lv_iload_n hx hb dX5_takeItem_26 rfl (lv_at hl 0 rfl) ?_
        refine lv_bipush (v := nI 100) hx hb dX5_takeItem_27 (by decide) ?_
        refine lv_icmp_ne (tgt := 48) hx hb dX5_takeItem_29 (by decide) (fun c29 => ?_) (fun c29 => ?_)
        · skip
          refine lv_iload_n hx hb dX5_takeItem_48 rfl (lv_at hl 0 rfl) ?_
          refine lv_i2l (v := (hd tx nt (pa.1 12)).toInt64) hx hb dX5_takeItem_49 rfl ?_
          refine lv_ldc2 (v := 65) hx hb hown (hts (.constantLong RX5 160 (65)) (List.mem_of_getElem? (i := 1) rfl)) dX5_takeItem_50 ?_
          refine lv_ldc2 (v := 90) hx hb hown (hts (.constantLong RX5 162 (90)) (List.mem_of_getElem? (i := 2) rfl)) dX5_takeItem_53 ?_
          refine cSi (As := [.long ((hd tx nt (pa.1 12)).toInt64), .long 65, .long 90]) (rest := []) ⟨hx, hb, hml, hown, hts⟩ (mt_X5_in l ((hd tx nt (pa.1 12)).toInt64) 65 90) (va_cwS 3 hts gX5_takeItem_X5_in rfl rfl rfl hd_X5_in ⟨Nat.le_of_ble_eq_true rfl, Nat.le_of_ble_eq_true rfl⟩) rfl hl.1 rfl (Nat.le_of_ble_eq_true rfl) ⟨Nat.zero_le _, Nat.zero_le _⟩ dX5_takeItem_56 (fun r56 hw56 => ?_)
          rcases hw56 with ⟨rfl, ha56, hb56⟩ | ⟨rfl, hn56⟩
          · skip
            refine lv_if_eq (tgt := 68) hx hb dX5_takeItem_59 (by decide) (fun c9 => absurd c9 (by decide)) (fun _ => ?_)
            refine lv_aload_n hx hb dX5_takeItem_62 rfl (lv_at hl 1 rfl) ?_
            refine lv_iload_n hx hb dX5_takeItem_63 rfl (lv_at hl 0 rfl) ?_
            refine cXi (As := [.int (hd tx nt (pa.1 12))]) (rest := []) (S := oS × Int64 × (Nat → Int64)) (wa := mw G h (oI u 12 (nI (pa.1 12))) lt sj) (w1 := fun v => mw G h v.1 v.2.1 v.2.2) ⟨hx, hb, hml, hown, hts⟩ (mt_X5_takeLine l G h _ (oI u 12 (nI (pa.1 12))) lt sj nt tx pa (hd tx nt (pa.1 12)) (hnt) (by first | assumption | omega) (⟨e10, rfl, e15, e19, e23, ⟨q240, qa, qv, ql, qd, qpar⟩, hrw⟩) (htx) (by first | assumption | omega)) (cwV 1 hts gX5_takeItem_X5_takeLine rfl rfl rfl ⟨rfl, hd_X5_takeLine⟩ ⟨Nat.le_of_ble_eq_true rfl, Nat.le_of_ble_eq_true rfl⟩) hK hN hP hD hS hA (fun _ => rfl) 0 5 rfl rfl rfl hl.1 rfl (Nat.le_of_ble_eq_true rfl) ⟨Nat.zero_le _, Nat.zero_le _⟩ dX5_takeItem_64 (fun r64 u64 H locs hw64 hP hD hS => ?_)
            rcases hw64 with ⟨w64, s64, rfl, hR64, hQ64, hS64, ha64, e1164, rfl⟩ | ⟨w64, f64, p64, s64, rfl, hR64, hQ64, e1164, hf64, hg64, rfl⟩
            · skip
              have hP : PP G (mw G h w64 lt sj) H := hP
              have hD : va_D A (mw G h w64 lt sj) := hD
              have htx64 : w64.2 9 = tx := (hR64.2 9 (by decide)).trans (htx)
              exact W.iret (v := nI 0) hx hb hr (fun t ht hW => ⟨⟨nI 0, (w64, lt, sj), rfl, Or.inl ⟨w64, s64, rfl, by repeat (first | exact rel.refl _ | exact rel.mono (by assumption) (by decide) (by decide) | refine rel.I (by decide) ?_ | refine rel.A (by decide) ?_ | refine rel.trans ?_ (rel.mono (by assumption) (by decide) (by decide))), (iST_l (by first | exact fun q => absurd q.1 (by assumption) | exact fun q => absurd (of_decide_eq_true q.2) (not_not_intro c12)) c23 c29 (sgn_64.mpr ⟨ha56, hb56⟩)).trans hQ64, hS64, ha64, e1164, rfl⟩, show PP G (mw G h w64 lt sj) t.heap by rw [ht]; exact hP⟩, hS.F ht⟩) hS.2.2 dX5_takeItem_67
            · skip
              have hP : PP G (mw G h w64 lt sj) H := hP
              have hD : va_D A (mw G h w64 lt sj) := hD
              have htx64 : w64.2 9 = tx := (hR64.2 9 (by decide)).trans (htx)
              exact W.iret (v := nI (f64)) hx hb hr (fun t ht hW => ⟨⟨nI (f64), (w64, lt, sj), rfl, Or.inr ⟨w64, f64, p64, s64, rfl, by repeat (first | exact rel.refl _ | exact rel.mono (by assumption) (by decide) (by decide) | refine rel.I (by decide) ?_ | refine rel.A (by decide) ?_ | refine rel.trans ?_ (rel.mono (by assumption) (by decide) (by decide))), (iST_l (by first | exact fun q => absurd q.1 (by assumption) | exact fun q => absurd (of_decide_eq_true q.2) (not_not_intro c12)) c23 c29 (sgn_64.mpr ⟨ha56, hb56⟩)).trans hQ64, e1164, hf64, hg64, rfl⟩, show PP G (mw G h w64 lt sj) t.heap by rw [ht]; exact hP⟩, hS.F ht⟩) hS.2.2 dX5_takeItem_67
          · skip
            refine lv_if_eq (tgt := 68) hx hb dX5_takeItem_59 (by decide) (fun _ => ?_) (fun c9 => absurd (by decide) c9)
            refine lv_iload_n hx hb dX5_takeItem_68 rfl (lv_at hl 0 rfl) ?_
            refine lv_bipush (v := nI 41) hx hb dX5_takeItem_69 (by decide) ?_
            refine lv_icmp_ne (tgt := 103) hx hb dX5_takeItem_71 (by decide) (fun c71 => ?_) (fun c71 => ?_)
            · skip
              refine lv_aload_n hx hb dX5_takeItem_103 rfl (lv_at hl 1 rfl) ?_
              refine lv_iconst (v := nI 1) hx hb dX5_takeItem_104 (by decide) ?_
              refine lv_aload_n hx hb dX5_takeItem_105 rfl (lv_at hl 1 rfl) ?_
              refine va_get (D := gD G) (ci := 5) (v := .int (nI (pa.1 12))) (C := RX5) (T := TX5) (N := 38) hx hb hts hiX5 hown hK hP 0 rfl rfl 12 (by decide) k105 (fun _ h9 => h9) rfl dX5_takeItem_106 ?_
              refine cXi (As := [.int (nI 1), .int (nI (pa.1 12))]) (rest := []) (S := oS × Int64 × (Nat → Int64)) (wa := mw G h (oI u 12 (nI (pa.1 12))) lt sj) (w1 := fun v => mw G h v.1 v.2.1 v.2.2) ⟨hx, hb, hml, hown, hts⟩ (mt_X5_fails l G h _ (oI u 12 (nI (pa.1 12))) lt sj (nI 1) (nI (pa.1 12))) (cwV 2 hts gX5_takeItem_X5_fails rfl rfl rfl ⟨rfl, hd_X5_fails⟩ ⟨Nat.le_of_ble_eq_true rfl, Nat.le_of_ble_eq_true rfl⟩) hK hN hP hD hS hA (fun _ => rfl) 0 5 rfl rfl rfl hl.1 rfl (Nat.le_of_ble_eq_true rfl) ⟨Nat.zero_le _, Nat.zero_le _⟩ dX5_takeItem_109 (fun r109 u109 H locs hw109 hP hD hS => ?_)
              obtain ⟨rfl, rfl⟩ := hw109
              have hP : PP G (mw G h (oI (oI u 12 (nI (pa.1 12))) 11 (nI (pa.1 12))) lt sj) H := hP
              have hD : va_D A (mw G h (oI (oI u 12 (nI (pa.1 12))) 11 (nI (pa.1 12))) lt sj) := hD
              exact W.iret (v := nI 1) hx hb hr (fun t ht hW => ⟨⟨nI 1, (oI (oI u 12 (nI (pa.1 12))) 11 (nI (pa.1 12)), lt, sj), rfl, Or.inr ⟨_, 1, (pa.1 12), pa, rfl, by repeat (first | exact rel.refl _ | exact rel.mono (by assumption) (by decide) (by decide) | refine rel.I (by decide) ?_ | refine rel.A (by decide) ?_ | refine rel.trans ?_ (rel.mono (by assumption) (by decide) (by decide))), iST_1 (by first | exact fun q => absurd q.1 (by assumption) | exact fun q => absurd (of_decide_eq_true q.2) (not_not_intro c12)) c23 c29 (sgn_n hn56) (fun q => by first | exact absurd q.1 c71 | (have := q.2; omega)), rfl, by omega, by omega, rfl⟩, show PP G (mw G h (oI (oI u 12 (nI (pa.1 12))) 11 (nI (pa.1 12))) lt sj) t.heap by rw [ht]; exact hP⟩, hS.F ht⟩) hS.2.2 dX5_takeItem_112
            · skip
              refine lv_aload_n hx hb dX5_takeItem_74 rfl (lv_at hl 1 rfl) ?_
              refine va_get (D := gD G) (ci := 5) (v := .int ((oI u 12 (nI (pa.1 12))).1 23)) (C := RX5) (T := TX5) (N := 38) hx hb hts hiX5 hown hK hP 0 rfl rfl 23 (by decide) k143 (fun _ h9 => h9) rfl dX5_takeItem_75 ?_
              refine topE e23 ?_
              refine lv_if_le (tgt := 103) hx hb dX5_takeItem_78 (by decide) (fun c78 => ?_) (fun c78 => ?_)
              · skip
                have n78 : (pa.1 23) ≤ 0 := (nI_leI (a := pa.1 23) (b := 0) (by omega) (by omega)).mp c78
                refine lv_aload_n hx hb dX5_takeItem_103 rfl (lv_at hl 1 rfl) ?_
                refine lv_iconst (v := nI 1) hx hb dX5_takeItem_104 (by decide) ?_
                refine lv_aload_n hx hb dX5_takeItem_105 rfl (lv_at hl 1 rfl) ?_
                refine va_get (D := gD G) (ci := 5) (v := .int (nI (pa.1 12))) (C := RX5) (T := TX5) (N := 38) hx hb hts hiX5 hown hK hP 0 rfl rfl 12 (by decide) k105 (fun _ h9 => h9) rfl dX5_takeItem_106 ?_
                refine cXi (As := [.int (nI 1), .int (nI (pa.1 12))]) (rest := []) (S := oS × Int64 × (Nat → Int64)) (wa := mw G h (oI u 12 (nI (pa.1 12))) lt sj) (w1 := fun v => mw G h v.1 v.2.1 v.2.2) ⟨hx, hb, hml, hown, hts⟩ (mt_X5_fails l G h _ (oI u 12 (nI (pa.1 12))) lt sj (nI 1) (nI (pa.1 12))) (cwV 2 hts gX5_takeItem_X5_fails rfl rfl rfl ⟨rfl, hd_X5_fails⟩ ⟨Nat.le_of_ble_eq_true rfl, Nat.le_of_ble_eq_true rfl⟩) hK hN hP hD hS hA (fun _ => rfl) 0 5 rfl rfl rfl hl.1 rfl (Nat.le_of_ble_eq_true rfl) ⟨Nat.zero_le _, Nat.zero_le _⟩ dX5_takeItem_109 (fun r109 u109 H locs hw109 hP hD hS => ?_)
                obtain ⟨rfl, rfl⟩ := hw109
                have hP : PP G (mw G h (oI (oI u 12 (nI (pa.1 12))) 11 (nI (pa.1 12))) lt sj) H := hP
                have hD : va_D A (mw G h (oI (oI u 12 (nI (pa.1 12))) 11 (nI (pa.1 12))) lt sj) := hD
                exact W.iret (v := nI 1) hx hb hr (fun t ht hW => ⟨⟨nI 1, (oI (oI u 12 (nI (pa.1 12))) 11 (nI (pa.1 12)), lt, sj), rfl, Or.inr ⟨_, 1, (pa.1 12), pa, rfl, by repeat (first | exact rel.refl _ | exact rel.mono (by assumption) (by decide) (by decide) | refine rel.I (by decide) ?_ | refine rel.A (by decide) ?_ | refine rel.trans ?_ (rel.mono (by assumption) (by decide) (by decide))), iST_1 (by first | exact fun q => absurd q.1 (by assumption) | exact fun q => absurd (of_decide_eq_true q.2) (not_not_intro c12)) c23 c29 (sgn_n hn56) (fun q => by first | exact absurd q.1 c71 | (have := q.2; omega)), rfl, by omega, by omega, rfl⟩, show PP G (mw G h (oI (oI u 12 (nI (pa.1 12))) 11 (nI (pa.1 12))) lt sj) t.heap by rw [ht]; exact hP⟩, hS.F ht⟩) hS.2.2 dX5_takeItem_112
              · skip
                have n78 : ¬ ((pa.1 23) ≤ 0) := fun q9 => c78 ((nI_leI (a := pa.1 23) (b := 0) (by omega) (by omega)).mpr q9)
                refine lv_aload_n hx hb dX5_takeItem_81 rfl (lv_at hl 1 rfl) ?_
                refine lv_dup hx hb dX5_takeItem_82 rfl ?_
                refine va_get (D := gD G) (ci := 5) (v := .int ((oI u 12 (nI (pa.1 12))).1 23)) (C := RX5) (T := TX5) (N := 38) hx hb hts hiX5 hown hK hP 0 rfl rfl 23 (by decide) k143 (fun _ h9 => h9) rfl dX5_takeItem_83 ?_
                refine topE e23 ?_
                refine lv_iconst (v := nI 1) hx hb dX5_takeItem_86 (by decide) ?_
                refine lv_isub hx hb dX5_takeItem_87 ?_
                refine topE (y := nI ((pa.1 23) - 1)) (pk_sub (by omega)) ?_
                refine va_put (D := gD G) (ci := 5) (v := .int (nI ((pa.1 23) - 1))) (ty := .int) (C := RX5) (T := TX5) (N := 38) hx hb hts hiX5 tyX5 tyX5_ok nmX5 hown hK hP hD hS 0 rfl rfl 23 (by decide) k143 (fun _ h9 => h9) rfl (tyX5_ok 23 (by decide)) (rfl) (rfl) (Nat.le_of_ble_eq_true rfl) dX5_takeItem_88 (fun H locs hP hD hS => ?_)
                have hP : PP G (mw G h (oI (oI u 12 (nI (pa.1 12))) 23 (nI ((pa.1 23) - 1))) lt sj) H := hP
                have hD : va_D A (mw G h (oI (oI u 12 (nI (pa.1 12))) 23 (nI ((pa.1 23) - 1))) lt sj) := hD
                refine lv_aload_n hx hb dX5_takeItem_91 rfl (lv_at hl 1 rfl) ?_
                refine lv_dup hx hb dX5_takeItem_92 rfl ?_
                refine va_get (D := gD G) (ci := 5) (v := .int (nI (pa.1 12))) (C := RX5) (T := TX5) (N := 38) hx hb hts hiX5 hown hK hP 0 rfl rfl 12 (by decide) k105 (fun _ h9 => h9) rfl dX5_takeItem_93 ?_
                refine lv_iconst (v := nI 1) hx hb dX5_takeItem_96 (by decide) ?_
                refine lv_iadd hx hb dX5_takeItem_97 ?_
                refine topE (y := nI ((pa.1 12) + 1)) (nI_add (pa.1 12) 1) ?_
                refine va_put (D := gD G) (ci := 5) (v := .int (nI ((pa.1 12) + 1))) (ty := .int) (C := RX5) (T := TX5) (N := 38) hx hb hts hiX5 tyX5 tyX5_ok nmX5 hown hK hP hD hS 0 rfl rfl 12 (by decide) k105 (fun _ h9 => h9) rfl (tyX5_ok 12 (by decide)) (rfl) (rfl) (Nat.le_of_ble_eq_true rfl) dX5_takeItem_98 (fun H locs hP hD hS => ?_)
                have hP : PP G (mw G h (oI (oI (oI u 12 (nI (pa.1 12))) 23 (nI ((pa.1 23) - 1))) 12 (nI ((pa.1 12) + 1))) lt sj) H := hP
                have hD : va_D A (mw G h (oI (oI (oI u 12 (nI (pa.1 12))) 23 (nI ((pa.1 23) - 1))) 12 (nI ((pa.1 12) + 1))) lt sj) := hD
                refine lv_iconst (v := nI 0) hx hb dX5_takeItem_101 (by decide) ?_
                exact W.iret (v := nI 0) hx hb hr (fun t ht hW => ⟨⟨nI 0, (oI (oI (oI u 12 (nI (pa.1 12))) 23 (nI ((pa.1 23) - 1))) 12 (nI ((pa.1 12) + 1)), lt, sj), rfl, by
                                        have HQ : iST tx nt (decide (¬ z = 0)) pa = (0, 0, cOK pa) := iST_c c71 (by omega)
                                        exact Or.inl ⟨_, cOK pa, rfl, by repeat (first | exact rel.refl _ | exact rel.mono (by assumption) (by decide) (by decide) | refine rel.I (by decide) ?_ | refine rel.A (by decide) ?_ | refine rel.trans ?_ (rel.mono (by assumption) (by decide) (by decide))), HQ, ⟨hnt, rfl, e15, e19, rfl, ⟨q240, (show (pa.1 12) + 1 ≤ nt by omega), (show pa.1 15 ≤ 24 by omega), (show pa.1 19 ≤ 120 by omega), (show (pa.1 23) - 1 ≤ (pa.1 12) + 1 by omega), qpar⟩, RwM_c hrw rfl rfl rfl rfl rfl rfl rfl rfl⟩, (show pa.1 12 < (pa.1 12) + 1 by omega), rfl, rfl⟩, show PP G (mw G h (oI (oI (oI u 12 (nI (pa.1 12))) 23 (nI ((pa.1 23) - 1))) 12 (nI ((pa.1 12) + 1))) lt sj) t.heap by rw [ht]; exact hP⟩, hS.F ht⟩) hS.2.2 dX5_takeItem_102
        · skip
          refine lv_aload_n hx hb dX5_takeItem_32 rfl (lv_at hl 1 rfl) ?_
          refine lv_iload_n hx hb dX5_takeItem_33 rfl (lv_at hl 0 rfl) ?_
          refine lv_bipush (v := nI 105) hx hb dX5_takeItem_34 (by decide) ?_
          refine lv_icmp_ne (tgt := 43) hx hb dX5_takeItem_36 (by decide) (fun c36 => ?_) (fun c36 => ?_)
          · skip
            refine lv_iconst (v := nI 0) hx hb dX5_takeItem_43 (by decide) ?_
            refine cXi (As := [.int (nI 0)]) (rest := []) (S := oS × Int64 × (Nat → Int64)) (wa := mw G h (oI u 12 (nI (pa.1 12))) lt sj) (w1 := fun v => mw G h v.1 v.2.1 v.2.2) ⟨hx, hb, hml, hown, hts⟩ (mt_X5_takeBlock l G h _ (oI u 12 (nI (pa.1 12))) lt sj nt tx pa (nI 0) (hnt) (by first | assumption | omega) (⟨e10, rfl, e15, e19, e23, ⟨q240, qa, qv, ql, qd, qpar⟩, hrw⟩) (htx) (by first | assumption | omega) (by decide)) (cwV 1 hts gX5_takeItem_X5_takeBlock rfl rfl rfl ⟨rfl, hd_X5_takeBlock⟩ ⟨Nat.le_of_ble_eq_true rfl, Nat.le_of_ble_eq_true rfl⟩) hK hN hP hD hS hA (fun _ => rfl) 0 5 rfl rfl rfl hl.1 rfl (Nat.le_of_ble_eq_true rfl) ⟨Nat.zero_le _, Nat.zero_le _⟩ dX5_takeItem_44 (fun r44 u44 H locs hw44 hP hD hS => ?_)
            rcases hw44 with ⟨w44, s44, rfl, hR44, hQ44, hS44, ha44, e1144, rfl⟩ | ⟨w44, f44, p44, s44, rfl, hR44, hQ44, e1144, hf44, hg44, rfl⟩
            · skip
              have hP : PP G (mw G h w44 lt sj) H := hP
              have hD : va_D A (mw G h w44 lt sj) := hD
              have htx44 : w44.2 9 = tx := (hR44.2 9 (by decide)).trans (htx)
              exact W.iret (v := nI 0) hx hb hr (fun t ht hW => ⟨⟨nI 0, (w44, lt, sj), rfl, Or.inl ⟨w44, s44, rfl, by repeat (first | exact rel.refl _ | exact rel.mono (by assumption) (by decide) (by decide) | refine rel.I (by decide) ?_ | refine rel.A (by decide) ?_ | refine rel.trans ?_ (rel.mono (by assumption) (by decide) (by decide))), (iST_d c29).trans hQ44, hS44, ha44, e1144, rfl⟩, show PP G (mw G h w44 lt sj) t.heap by rw [ht]; exact hP⟩, hS.F ht⟩) hS.2.2 dX5_takeItem_47
            · skip
              have hP : PP G (mw G h w44 lt sj) H := hP
              have hD : va_D A (mw G h w44 lt sj) := hD
              have htx44 : w44.2 9 = tx := (hR44.2 9 (by decide)).trans (htx)
              exact W.iret (v := nI (f44)) hx hb hr (fun t ht hW => ⟨⟨nI (f44), (w44, lt, sj), rfl, Or.inr ⟨w44, f44, p44, s44, rfl, by repeat (first | exact rel.refl _ | exact rel.mono (by assumption) (by decide) (by decide) | refine rel.I (by decide) ?_ | refine rel.A (by decide) ?_ | refine rel.trans ?_ (rel.mono (by assumption) (by decide) (by decide))), (iST_d c29).trans hQ44, e1144, hf44, hg44, rfl⟩, show PP G (mw G h w44 lt sj) t.heap by rw [ht]; exact hP⟩, hS.F ht⟩) hS.2.2 dX5_takeItem_47
          · skip
            exact absurd c36 c23
    · skip
      refine lv_aload_n hx hb dX5_takeItem_15 rfl (lv_at hl 1 rfl) ?_
      refine cXi (As := []) (rest := []) (S := oS × Int64 × (Nat → Int64)) (wa := mw G h (oI u 12 (nI (pa.1 12))) lt sj) (w1 := fun v => mw G h v.1 v.2.1 v.2.2) ⟨hx, hb, hml, hown, hts⟩ (mt_X5_takeVersion l G h _ (oI u 12 (nI (pa.1 12))) lt sj nt tx pa (hnt) (by first | assumption | omega) (⟨e10, rfl, e15, e19, e23, ⟨q240, qa, qv, ql, qd, qpar⟩, hrw⟩) (htx) (by first | assumption | omega)) (cwV 0 hts gX5_takeItem_X5_takeVersion rfl rfl rfl ⟨rfl, hd_X5_takeVersion⟩ ⟨Nat.le_of_ble_eq_true rfl, Nat.le_of_ble_eq_true rfl⟩) hK hN hP hD hS hA (fun _ => rfl) 0 5 rfl rfl rfl hl.1 rfl (Nat.le_of_ble_eq_true rfl) ⟨Nat.zero_le _, Nat.zero_le _⟩ dX5_takeItem_16 (fun r16 u16 H locs hw16 hP hD hS => ?_)
      rcases hw16 with ⟨w16, s16, rfl, hR16, hQ16, hS16, ha16, e1116, rfl⟩ | ⟨w16, f16, p16, s16, rfl, hR16, hQ16, e1116, hf16, hg16, rfl⟩
      · skip
        have hP : PP G (mw G h w16 lt sj) H := hP
        have hD : va_D A (mw G h w16 lt sj) := hD
        have htx16 : w16.2 9 = tx := (hR16.2 9 (by decide)).trans (htx)
        exact W.iret (v := nI 0) hx hb hr (fun t ht hW => ⟨⟨nI 0, (w16, lt, sj), rfl, Or.inl ⟨w16, s16, rfl, by repeat (first | exact rel.refl _ | exact rel.mono (by assumption) (by decide) (by decide) | refine rel.I (by decide) ?_ | refine rel.A (by decide) ?_ | refine rel.trans ?_ (rel.mono (by assumption) (by decide) (by decide))), (iST_v c8 (decide_eq_true c12)).trans hQ16, hS16, ha16, e1116, rfl⟩, show PP G (mw G h w16 lt sj) t.heap by rw [ht]; exact hP⟩, hS.F ht⟩) hS.2.2 dX5_takeItem_19
      · skip
        have hP : PP G (mw G h w16 lt sj) H := hP
        have hD : va_D A (mw G h w16 lt sj) := hD
        have htx16 : w16.2 9 = tx := (hR16.2 9 (by decide)).trans (htx)
        exact W.iret (v := nI (f16)) hx hb hr (fun t ht hW => ⟨⟨nI (f16), (w16, lt, sj), rfl, Or.inr ⟨w16, f16, p16, s16, rfl, by repeat (first | exact rel.refl _ | exact rel.mono (by assumption) (by decide) (by decide) | refine rel.I (by decide) ?_ | refine rel.A (by decide) ?_ | refine rel.trans ?_ (rel.mono (by assumption) (by decide) (by decide))), (iST_v c8 (decide_eq_true c12)).trans hQ16, e1116, hf16, hg16, rfl⟩, show PP G (mw G h w16 lt sj) t.heap by rw [ht]; exact hP⟩, hS.F ht⟩) hS.2.2 dX5_takeItem_19
theorem parRw {f g : Nat → Int32} {n : Nat} (h : rwE f g n) (hp : parOK g n) : parOK f n := by
  intro i hi
  rw [h i hi]
  exact hp i hi

