set_option maxHeartbeats 1000000 in
set_option maxRecDepth 100000 in
theorem mt_X5_putNowF (l : Launch) (G : gG) (h : Nat → Nat) (sz : Nat) (u : oS) (lt : Int64) (sj : Nat → Int64) (nv : Nat) (nl : Nat) (q : Nat) (lett : Int32) (hnv : u.1 0 = nI nv) (hnl : u.1 4 = nI nl) (hnv24 : nv ≤ 24) (hnl119 : nl < 120) (hpar : parOK (u.2 1) (nv + 1)) (hq : q < 2147483648) : Met l yX5_putNow wsX5_putNow ({ frames := 3, cells := 0, slots := 0, locals := 67 }) (preW G (mw G h u lt sj) sz [.ref (h 0), .int (nI q), .int lett]) (va_Qi (fun (r : Int32) (v : oS × Int64 × (Nat → Int64)) => ∃ g f5 f6 f7, v = (oI (ln3 (oA u 26 g) f5 f6 f7) 4 (nI (nl + 1)), lt, sj) ∧ rwE f5 (insP (u.2 5) (posP (sdb (u.2 6) (u.2 7) (chV (u.2 1) (u.2 2) (u.2 3) (nI nv))) nl q) lett) (nl + 1) ∧ rwE f6 (insP (u.2 6) (posP (sdb (u.2 6) (u.2 7) (chV (u.2 1) (u.2 2) (u.2 3) (nI nv))) nl q) (nI nv)) (nl + 1) ∧ rwE f7 (insP (u.2 7) (posP (sdb (u.2 6) (u.2 7) (chV (u.2 1) (u.2 2) (u.2 3) (nI nv))) nl q) (nI 0)) (nl + 1) ∧ r = nI (posP (sdb (u.2 6) (u.2 7) (chV (u.2 1) (u.2 2) (u.2 3) (nI nv))) nl q)) (fun v t => PP G (mw G h v.1 v.2.1 v.2.2) t.heap) (va_A (mw G h u lt sj) sz)) 0 0 (va_A (mw G h u lt sj) sz) := by
  refine Met.ofW (cc := cX5_putNow) (maxL := 5) (ret := (some .int)) (by decide) rfl ?_
  intro p e s m args below meth c s₁ B hml hv
  obtain ⟨ha, hsz, hP, hK, hN, hD0⟩ := hv
  subst ha
  have hx := B.exec
  have hb := B.bytes
  have hr := B.returns
  have hts := atoms_spec (ws := wsX5_putNow) B.pre
  have hown : s.vm.findClass RX5 = some m.cls := findClass_of_methodNamed B.named
  have hlocks := B.notSynchronized
  subst hsz
  have hD := hD0.self (sz := s.heap.size)
  generalize hAe : va_A (mw G h u lt sj) s.heap.size = A at hD ⊢
  have hA : ∀ q : Nat, s.heap.size ≤ q → A q := fun q h => by rw [← hAe]; exact Or.inr h
  clear hAe hD0
  have hS : va_S A s.heap s.heap [] := va_S.rf
  have hiX5 : ∀ w ∈ wsX50, w ∈ wsX5_putNow := fun w h9 => List.mem_cons_of_mem _ (List.mem_append_right _ (h9))
  have k91 := hts (.fieldLink RX5 91 "WovenHistoryModel" "versions" "I") (List.mem_of_getElem? (i := 1) rfl)
  have k175 := hts (.fieldLink RX5 175 "WovenHistoryModel" "lines" "I") (List.mem_of_getElem? (i := 2) rfl)
  have k19 := hts (.fieldLink RX5 19 "WovenHistoryModel" "letter" "[I") (List.mem_of_getElem? (i := 3) rfl)
  have k22 := hts (.fieldLink RX5 22 "WovenHistoryModel" "brought" "[I") (List.mem_of_getElem? (i := 4) rfl)
  have k25 := hts (.fieldLink RX5 25 "WovenHistoryModel" "took" "[I") (List.mem_of_getElem? (i := 5) rfl)
  have hl := lv_entry ([.ref (h 0), .int (nI q), .int lett]) (n := 5) (Nat.le_of_ble_eq_true rfl)
  rw [lg_entry_eq]
  generalize (lg_sl ([.ref (h 0), .int (nI q), .int lett]) ++ List.replicate (5 - (lg_sl ([.ref (h 0), .int (nI q), .int lett])).length) Slot.unset).toArray = ls at hl ⊢
  have hl : lv_has ls 5 [(0, .ref (h 0)), (1, .int (nI q)), (2, .int lett)] := hl
  refine lv_iload_n hx hb dX5_putNow_0 rfl (lv_at hl 1 rfl) ?_
  refine lv_if_ne (tgt := 8) hx hb dX5_putNow_1 (by decide) (fun c1 => ?_) (fun c1 => ?_)
  · skip
    have n1 : ¬ (q = 0) := fun q9 => c1 ((nI_eq (a := q) (b := 0) (by omega) (by omega)).mpr q9)
    refine lv_aload_n hx hb dX5_putNow_8 rfl (lv_at hl 0 rfl) ?_
    refine lv_aload_n hx hb dX5_putNow_9 rfl (lv_at hl 0 rfl) ?_
    refine lv_aload_n hx hb dX5_putNow_10 rfl (lv_at hl 0 rfl) ?_
    refine va_get (D := gD G) (ci := 5) (v := .int (u.1 0)) (C := RX5) (T := TX5) (N := 38) hx hb hts hiX5 hown hK hP 0 rfl rfl 0 (by decide) k91 (fun _ h9 => h9) rfl dX5_putNow_11 ?_
    refine topE hnv ?_
    have hP := mw_self26 hP
    have hD : va_D A (mw G h (oA u 26 (u.2 26)) lt sj) := mw_self26D hD
    refine cXi (As := [.int (nI nv)]) (rest := [.ref (h 0)]) (S := oS × Int64 × (Nat → Int64)) (wa := mw G h (oA u 26 (u.2 26)) lt sj) (w1 := fun v => mw G h v.1 v.2.1 v.2.2) ⟨hx, hb, hml, hown, hts⟩ (mt_X5_changesOf l G h _ u lt sj (u.2 26) nv (by first | assumption | omega) (by first | assumption | omega)) (cwV 1 hts gX5_putNow_X5_changesOf rfl rfl rfl ⟨rfl, hd_X5_changesOf⟩ ⟨Nat.le_of_ble_eq_true rfl, Nat.le_of_ble_eq_true rfl⟩) hK hN hP hD hS hA (fun _ => rfl) 0 5 rfl rfl rfl hl.1 rfl (Nat.le_of_ble_eq_true rfl) ⟨Nat.zero_le _, Nat.zero_le _⟩ dX5_putNow_14 (fun r14 u14 H locs hw14 hP hD hS => ?_)
    obtain ⟨g14, rfl, rfl⟩ := hw14
    have hP : PP G (mw G h (oA u 26 g14) lt sj) H := hP
    have hD : va_D A (mw G h (oA u 26 g14) lt sj) := hD
    refine lv_iload_n hx hb dX5_putNow_17 rfl (lv_at hl 1 rfl) ?_
    refine lv_iconst (v := nI 1) hx hb dX5_putNow_18 (by decide) ?_
    refine lv_isub hx hb dX5_putNow_19 ?_
    refine topE (y := nI (q - 1)) (pk_sub (by omega)) ?_
    refine cRi (w := mw G h (oA u 26 g14) lt sj) (As := [.int (chV (u.2 1) (u.2 2) (u.2 3) (nI nv)), .int (nI (q - 1))]) (rest := []) ⟨hx, hb, hml, hown, hts⟩ (mt_X5_lineAt l G h (oA u 26 g14) lt sj nl (chV (u.2 1) (u.2 2) (u.2 3) (nI nv)) (q - 1) (hnl) (by omega) (by omega)) (cwV 2 hts gX5_putNow_X5_lineAt rfl rfl rfl ⟨rfl, hd_X5_lineAt⟩ ⟨Nat.le_of_ble_eq_true rfl, Nat.le_of_ble_eq_true rfl⟩) hK hN hP 0 5 rfl rfl rfl hl.1 rfl (Nat.le_of_ble_eq_true rfl) ⟨Nat.zero_le _, Nat.zero_le _⟩ dX5_putNow_20 (fun r20 hw20 => ?_)
    rcases hw20 with ⟨i20, hi20, hp20, hq20, rfl⟩ | ⟨hq20, rfl⟩
    · skip
      refine lv_iconst (v := nI 1) hx hb dX5_putNow_23 (by decide) ?_
      refine lv_iadd hx hb dX5_putNow_24 ?_
      refine topE (y := nI (i20 + 1)) (nI_add i20 1) ?_
      refine lv_istore_n (lv' := [(3, .int (nI (i20 + 1))), (0, .ref (h 0)), (1, .int (nI q)), (2, .int lett)]) hx hb dX5_putNow_25 rfl hl (by decide) rfl (fun ls hl => ?_)
      refine lv_aload_n hx hb dX5_putNow_26 rfl (lv_at hl 1 rfl) ?_
      refine va_get (D := gD G) (ci := 5) (v := .int (u.1 4)) (C := RX5) (T := TX5) (N := 38) hx hb hts hiX5 hown hK hP 0 rfl rfl 4 (by decide) k175 (fun _ h9 => h9) rfl dX5_putNow_27 ?_
      refine topE hnl ?_
      refine lv_istore (lv' := [(4, .int (nI nl)), (3, .int (nI (i20 + 1))), (0, .ref (h 0)), (1, .int (nI q)), (2, .int lett)]) hx hb dX5_putNow_30 hl (by decide) rfl (fun ls hl => ?_)
      have LP32 : ∀ (n32m : Nat), ∀ (aa : Nat) (k : Nat) (g : Nat → Int32) (f5 : Nat → Int32) (f6 : Nat → Int32) (f7 : Nat → Int32) (haa : aa ≤ nl) (hk : k ≤ nl) (hka : aa ≤ k) (haa2 : aa = posP (sdb (u.2 6) (u.2 7) (chV (u.2 1) (u.2 2) (u.2 3) (nI nv))) nl q) (h5 : shE f5 (u.2 5) nl k) (h6 : shE f6 (u.2 6) nl k) (h7 : shE f7 (u.2 7) nl k), (k < n32m) → ∀ (H : Heap) (locs : List Loc) (ls : Array Slot), PP G (mw G h (ln3 (oA u 26 g) f5 f6 f7) lt sj) H → va_D A (mw G h (ln3 (oA u 26 g) f5 f6 f7) lt sj) → va_S A s.heap H locs → lv_has ls 5 [(0, .ref (h 0)), (2, .int lett), (3, .int (nI aa)), (4, .int (nI k))] → W p l e (headSpec wsX5_putNow ({ frames := 3, cells := 0, slots := 0, locals := 67 })).room s m ([.ref (h 0), .int (nI q), .int lett] : List Value).toArray below meth c H locs 0 0 (MQ below (va_Qi (fun (r : Int32) (v : oS × Int64 × (Nat → Int64)) => ∃ g f5 f6 f7, v = (oI (ln3 (oA u 26 g) f5 f6 f7) 4 (nI (nl + 1)), lt, sj) ∧ rwE f5 (insP (u.2 5) (posP (sdb (u.2 6) (u.2 7) (chV (u.2 1) (u.2 2) (u.2 3) (nI nv))) nl q) lett) (nl + 1) ∧ rwE f6 (insP (u.2 6) (posP (sdb (u.2 6) (u.2 7) (chV (u.2 1) (u.2 2) (u.2 3) (nI nv))) nl q) (nI nv)) (nl + 1) ∧ rwE f7 (insP (u.2 7) (posP (sdb (u.2 6) (u.2 7) (chV (u.2 1) (u.2 2) (u.2 3) (nI nv))) nl q) (nI 0)) (nl + 1) ∧ r = nI (posP (sdb (u.2 6) (u.2 7) (chV (u.2 1) (u.2 2) (u.2 3) (nI nv))) nl q)) (fun v t => PP G (mw G h v.1 v.2.1 v.2.2) t.heap) A) ([.ref (h 0), .int (nI q), .int lett] : List Value).toArray s 0 0 A) (F0 m 32 ls []) := by
        intro n32m
        induction n32m with
        | zero => intro aa k g f5 f6 f7 haa hk hka haa2 h5 h6 h7 hmu H locs ls hP hD hS hl; exact absurd hmu (Nat.not_lt_zero _)
        | succ n32m ih32 =>
          intro aa k g f5 f6 f7 haa hk hka haa2 h5 h6 h7 hmu H locs ls hP hD hS hl
          refine lv_iload hx hb dX5_putNow_32 (lv_at hl 3 rfl) ?_
          refine lv_iload_n hx hb dX5_putNow_34 rfl (lv_at hl 2 rfl) ?_
          refine lv_icmp_le (tgt := 92) hx hb dX5_putNow_35 (by decide) (fun c35 => ?_) (fun c35 => ?_)
          · skip
            have n35 : k ≤ aa := (nI_leI (a := k) (b := aa) (by omega) (by omega)).mp c35
            refine lv_aload_n hx hb dX5_putNow_92 rfl (lv_at hl 0 rfl) ?_
            refine va_get (D := gD G) (ci := 5) (v := .ref (h 5)) (C := RX5) (T := TX5) (N := 38) hx hb hts hiX5 hown hK hP 0 rfl rfl 5 (by decide) k19 (fun _ h9 => h9) rfl dX5_putNow_93 ?_
            refine lv_iload_n hx hb dX5_putNow_96 rfl (lv_at hl 2 rfl) ?_
            refine lv_iload_n hx hb dX5_putNow_97 rfl (lv_at hl 1 rfl) ?_
            refine iastN (f := f5) (n := 120) (k := aa) hx hb hK hP hD hS 4 rfl rfl (by omega) dX5_putNow_98 (fun H locs hP hD hS => ?_)
            have hP : PP G (mw G h (oA (ln3 (oA u 26 g) f5 f6 f7) 5 (upd f5 aa lett)) lt sj) H := hP
            have hD : va_D A (mw G h (oA (ln3 (oA u 26 g) f5 f6 f7) 5 (upd f5 aa lett)) lt sj) := hD
            refine lv_aload_n hx hb dX5_putNow_99 rfl (lv_at hl 0 rfl) ?_
            refine va_get (D := gD G) (ci := 5) (v := .ref (h 6)) (C := RX5) (T := TX5) (N := 38) hx hb hts hiX5 hown hK hP 0 rfl rfl 6 (by decide) k22 (fun _ h9 => h9) rfl dX5_putNow_100 ?_
            refine lv_iload_n hx hb dX5_putNow_103 rfl (lv_at hl 2 rfl) ?_
            refine lv_aload_n hx hb dX5_putNow_104 rfl (lv_at hl 0 rfl) ?_
            refine va_get (D := gD G) (ci := 5) (v := .int ((oA (ln3 (oA u 26 g) f5 f6 f7) 5 (upd f5 aa lett)).1 0)) (C := RX5) (T := TX5) (N := 38) hx hb hts hiX5 hown hK hP 0 rfl rfl 0 (by decide) k91 (fun _ h9 => h9) rfl dX5_putNow_105 ?_
            refine topE hnv ?_
            refine iastN (f := f6) (n := 120) (k := aa) hx hb hK hP hD hS 5 rfl rfl (by omega) dX5_putNow_108 (fun H locs hP hD hS => ?_)
            have hP : PP G (mw G h (oA (oA (ln3 (oA u 26 g) f5 f6 f7) 5 (upd f5 aa lett)) 6 (upd f6 aa (nI nv))) lt sj) H := hP
            have hD : va_D A (mw G h (oA (oA (ln3 (oA u 26 g) f5 f6 f7) 5 (upd f5 aa lett)) 6 (upd f6 aa (nI nv))) lt sj) := hD
            refine lv_aload_n hx hb dX5_putNow_109 rfl (lv_at hl 0 rfl) ?_
            refine va_get (D := gD G) (ci := 5) (v := .ref (h 7)) (C := RX5) (T := TX5) (N := 38) hx hb hts hiX5 hown hK hP 0 rfl rfl 7 (by decide) k25 (fun _ h9 => h9) rfl dX5_putNow_110 ?_
            refine lv_iload_n hx hb dX5_putNow_113 rfl (lv_at hl 2 rfl) ?_
            refine lv_iconst (v := nI 0) hx hb dX5_putNow_114 (by decide) ?_
            refine iastN (f := f7) (n := 120) (k := aa) hx hb hK hP hD hS 6 rfl rfl (by omega) dX5_putNow_115 (fun H locs hP hD hS => ?_)
            have hP : PP G (mw G h (oA (oA (oA (ln3 (oA u 26 g) f5 f6 f7) 5 (upd f5 aa lett)) 6 (upd f6 aa (nI nv))) 7 (upd f7 aa (nI 0))) lt sj) H := hP
            have hD : va_D A (mw G h (oA (oA (oA (ln3 (oA u 26 g) f5 f6 f7) 5 (upd f5 aa lett)) 6 (upd f6 aa (nI nv))) 7 (upd f7 aa (nI 0))) lt sj) := hD
            refine lv_aload_n hx hb dX5_putNow_116 rfl (lv_at hl 0 rfl) ?_
            refine lv_dup hx hb dX5_putNow_117 rfl ?_
            refine va_get (D := gD G) (ci := 5) (v := .int ((oA (oA (oA (ln3 (oA u 26 g) f5 f6 f7) 5 (upd f5 aa lett)) 6 (upd f6 aa (nI nv))) 7 (upd f7 aa (nI 0))).1 4)) (C := RX5) (T := TX5) (N := 38) hx hb hts hiX5 hown hK hP 0 rfl rfl 4 (by decide) k175 (fun _ h9 => h9) rfl dX5_putNow_118 ?_
            refine topE hnl ?_
            refine lv_iconst (v := nI 1) hx hb dX5_putNow_121 (by decide) ?_
            refine lv_iadd hx hb dX5_putNow_122 ?_
            refine topE (y := nI (nl + 1)) (nI_add nl 1) ?_
            refine va_put (D := gD G) (ci := 5) (v := .int (nI (nl + 1))) (ty := .int) (C := RX5) (T := TX5) (N := 38) hx hb hts hiX5 tyX5 tyX5_ok nmX5 hown hK hP hD hS 0 rfl rfl 4 (by decide) k175 (fun _ h9 => h9) rfl (tyX5_ok 4 (by decide)) (rfl) (rfl) (Nat.le_of_ble_eq_true rfl) dX5_putNow_123 (fun H locs hP hD hS => ?_)
            have hP : PP G (mw G h (oI (oA (oA (oA (ln3 (oA u 26 g) f5 f6 f7) 5 (upd f5 aa lett)) 6 (upd f6 aa (nI nv))) 7 (upd f7 aa (nI 0))) 4 (nI (nl + 1))) lt sj) H := hP
            have hD : va_D A (mw G h (oI (oA (oA (oA (ln3 (oA u 26 g) f5 f6 f7) 5 (upd f5 aa lett)) 6 (upd f6 aa (nI nv))) 7 (upd f7 aa (nI 0))) 4 (nI (nl + 1))) lt sj) := hD
            refine lv_iload_n hx hb dX5_putNow_126 rfl (lv_at hl 2 rfl) ?_
            exact W.iret (v := nI aa) hx hb hr (fun t ht hW => ⟨⟨nI aa, (oI (oA (oA (oA (ln3 (oA u 26 g) f5 f6 f7) 5 (upd f5 aa lett)) 6 (upd f6 aa (nI nv))) 7 (upd f7 aa (nI 0))) 4 (nI (nl + 1)), lt, sj), rfl, ⟨g, _, _, _, congrArg (fun q => (oI q 4 (nI (nl + 1)), lt, sj)) (ln3_w _ _ _ _ _ _ _), (by rw [← haa2]; have ek : k = aa := (by omega); subst ek; exact shE_e h5 _), (by rw [← haa2]; have ek : k = aa := (by omega); subst ek; exact shE_e h6 _), (by rw [← haa2]; have ek : k = aa := (by omega); subst ek; exact shE_e h7 _), by rw [haa2]⟩, show PP G (mw G h (oI (oA (oA (oA (ln3 (oA u 26 g) f5 f6 f7) 5 (upd f5 aa lett)) 6 (upd f6 aa (nI nv))) 7 (upd f7 aa (nI 0))) 4 (nI (nl + 1))) lt sj) t.heap by rw [ht]; exact hP⟩, hS.F ht⟩) hS.2.2 dX5_putNow_127
          · skip
            have n35 : ¬ (k ≤ aa) := fun q9 => c35 ((nI_leI (a := k) (b := aa) (by omega) (by omega)).mpr q9)
            refine lv_aload_n hx hb dX5_putNow_38 rfl (lv_at hl 0 rfl) ?_
            refine va_get (D := gD G) (ci := 5) (v := .ref (h 5)) (C := RX5) (T := TX5) (N := 38) hx hb hts hiX5 hown hK hP 0 rfl rfl 5 (by decide) k19 (fun _ h9 => h9) rfl dX5_putNow_39 ?_
            refine lv_iload hx hb dX5_putNow_42 (lv_at hl 3 rfl) ?_
            refine lv_aload_n hx hb dX5_putNow_44 rfl (lv_at hl 0 rfl) ?_
            refine va_get (D := gD G) (ci := 5) (v := .ref (h 5)) (C := RX5) (T := TX5) (N := 38) hx hb hts hiX5 hown hK hP 0 rfl rfl 5 (by decide) k19 (fun _ h9 => h9) rfl dX5_putNow_45 ?_
            refine lv_iload hx hb dX5_putNow_48 (lv_at hl 3 rfl) ?_
            refine lv_iconst (v := nI 1) hx hb dX5_putNow_50 (by decide) ?_
            refine lv_isub hx hb dX5_putNow_51 ?_
            refine topE (y := nI (k - 1)) (pk_sub (by omega)) ?_
            refine ialdN (f := f5) (n := 120) (k := k - 1) hx hb hK hP 4 rfl rfl (by omega) dX5_putNow_52 ?_
            refine iastN (f := f5) (n := 120) (k := k) hx hb hK hP hD hS 4 rfl rfl (by omega) dX5_putNow_53 (fun H locs hP hD hS => ?_)
            have hP : PP G (mw G h (oA (ln3 (oA u 26 g) f5 f6 f7) 5 (upd f5 k (f5 (k - 1)))) lt sj) H := hP
            have hD : va_D A (mw G h (oA (ln3 (oA u 26 g) f5 f6 f7) 5 (upd f5 k (f5 (k - 1)))) lt sj) := hD
            refine lv_aload_n hx hb dX5_putNow_54 rfl (lv_at hl 0 rfl) ?_
            refine va_get (D := gD G) (ci := 5) (v := .ref (h 6)) (C := RX5) (T := TX5) (N := 38) hx hb hts hiX5 hown hK hP 0 rfl rfl 6 (by decide) k22 (fun _ h9 => h9) rfl dX5_putNow_55 ?_
            refine lv_iload hx hb dX5_putNow_58 (lv_at hl 3 rfl) ?_
            refine lv_aload_n hx hb dX5_putNow_60 rfl (lv_at hl 0 rfl) ?_
            refine va_get (D := gD G) (ci := 5) (v := .ref (h 6)) (C := RX5) (T := TX5) (N := 38) hx hb hts hiX5 hown hK hP 0 rfl rfl 6 (by decide) k22 (fun _ h9 => h9) rfl dX5_putNow_61 ?_
            refine lv_iload hx hb dX5_putNow_64 (lv_at hl 3 rfl) ?_
            refine lv_iconst (v := nI 1) hx hb dX5_putNow_66 (by decide) ?_
            refine lv_isub hx hb dX5_putNow_67 ?_
            refine topE (y := nI (k - 1)) (pk_sub (by omega)) ?_
            refine ialdN (f := f6) (n := 120) (k := k - 1) hx hb hK hP 5 rfl rfl (by omega) dX5_putNow_68 ?_
            refine iastN (f := f6) (n := 120) (k := k) hx hb hK hP hD hS 5 rfl rfl (by omega) dX5_putNow_69 (fun H locs hP hD hS => ?_)
            have hP : PP G (mw G h (oA (oA (ln3 (oA u 26 g) f5 f6 f7) 5 (upd f5 k (f5 (k - 1)))) 6 (upd f6 k (f6 (k - 1)))) lt sj) H := hP
            have hD : va_D A (mw G h (oA (oA (ln3 (oA u 26 g) f5 f6 f7) 5 (upd f5 k (f5 (k - 1)))) 6 (upd f6 k (f6 (k - 1)))) lt sj) := hD
            refine lv_aload_n hx hb dX5_putNow_70 rfl (lv_at hl 0 rfl) ?_
            refine va_get (D := gD G) (ci := 5) (v := .ref (h 7)) (C := RX5) (T := TX5) (N := 38) hx hb hts hiX5 hown hK hP 0 rfl rfl 7 (by decide) k25 (fun _ h9 => h9) rfl dX5_putNow_71 ?_
            refine lv_iload hx hb dX5_putNow_74 (lv_at hl 3 rfl) ?_
            refine lv_aload_n hx hb dX5_putNow_76 rfl (lv_at hl 0 rfl) ?_
            refine va_get (D := gD G) (ci := 5) (v := .ref (h 7)) (C := RX5) (T := TX5) (N := 38) hx hb hts hiX5 hown hK hP 0 rfl rfl 7 (by decide) k25 (fun _ h9 => h9) rfl dX5_putNow_77 ?_
            refine lv_iload hx hb dX5_putNow_80 (lv_at hl 3 rfl) ?_
            refine lv_iconst (v := nI 1) hx hb dX5_putNow_82 (by decide) ?_
            refine lv_isub hx hb dX5_putNow_83 ?_
            refine topE (y := nI (k - 1)) (pk_sub (by omega)) ?_
            refine ialdN (f := f7) (n := 120) (k := k - 1) hx hb hK hP 6 rfl rfl (by omega) dX5_putNow_84 ?_
            refine iastN (f := f7) (n := 120) (k := k) hx hb hK hP hD hS 6 rfl rfl (by omega) dX5_putNow_85 (fun H locs hP hD hS => ?_)
            have hP : PP G (mw G h (oA (oA (oA (ln3 (oA u 26 g) f5 f6 f7) 5 (upd f5 k (f5 (k - 1)))) 6 (upd f6 k (f6 (k - 1)))) 7 (upd f7 k (f7 (k - 1)))) lt sj) H := hP
            have hD : va_D A (mw G h (oA (oA (oA (ln3 (oA u 26 g) f5 f6 f7) 5 (upd f5 k (f5 (k - 1)))) 6 (upd f6 k (f6 (k - 1)))) 7 (upd f7 k (f7 (k - 1)))) lt sj) := hD
            refine lv_iinc (v := nI (k - 1)) (lv' := [(4, .int (nI (k - 1))), (0, .ref (h 0)), (2, .int lett), (3, .int (nI aa))]) hx hb dX5_putNow_86 hl (k := 3) rfl (nI_dec k (by omega)) (by decide) rfl (fun ls hl => ?_)
            refine lv_goto (tgt := 32) hx hb dX5_putNow_89 (by decide) ?_
            exact ih32 aa (k - 1) g (upd f5 k (f5 (k - 1))) (upd f6 k (f6 (k - 1))) (upd f7 k (f7 (k - 1))) (by first | assumption | omega) (by first | assumption | omega) (by first | assumption | omega) (haa2) (shE_s h5 (by omega) (by omega)) (shE_s h6 (by omega) (by omega)) (shE_s h7 (by omega) (by omega)) (by omega) _ _ ls hP hD hS (lv_sub hl [1, 2, 3, 0] rfl)
      exact LP32 (nl + 1) (i20 + 1) nl g14 (u.2 5) (u.2 6) (u.2 7) (by first | assumption | omega) (by first | assumption | omega) (by first | assumption | omega) (by first | (unfold posP; rw [if_pos n1]) | (unfold posP; rw [if_neg n1, show fndN (sdb (u.2 6) (u.2 7) (chV (u.2 1) (u.2 2) (u.2 3) (nI nv))) nl (q - 1) = i20 from fndN_hit hp20 hq20 hi20, if_pos hi20]) | (unfold posP; rw [if_neg n1, show fndN (sdb (u.2 6) (u.2 7) (chV (u.2 1) (u.2 2) (u.2 3) (nI nv))) nl (q - 1) = nl from fndN_miss hq20, if_neg (Nat.lt_irrefl _)])) (shE_0 _ _) (shE_0 _ _) (shE_0 _ _) (Nat.lt_succ_self _) _ _ ls hP hD hS (lv_sub hl [2, 4, 1, 0] rfl)
    · skip
      refine lv_iconst (v := nI 1) hx hb dX5_putNow_23 (by decide) ?_
      refine lv_iadd hx hb dX5_putNow_24 ?_
      refine topE (y := nI 0) (by decide) ?_
      refine lv_istore_n (lv' := [(3, .int (nI 0)), (0, .ref (h 0)), (1, .int (nI q)), (2, .int lett)]) hx hb dX5_putNow_25 rfl hl (by decide) rfl (fun ls hl => ?_)
      refine lv_aload_n hx hb dX5_putNow_26 rfl (lv_at hl 1 rfl) ?_
      refine va_get (D := gD G) (ci := 5) (v := .int (u.1 4)) (C := RX5) (T := TX5) (N := 38) hx hb hts hiX5 hown hK hP 0 rfl rfl 4 (by decide) k175 (fun _ h9 => h9) rfl dX5_putNow_27 ?_
      refine topE hnl ?_
      refine lv_istore (lv' := [(4, .int (nI nl)), (3, .int (nI 0)), (0, .ref (h 0)), (1, .int (nI q)), (2, .int lett)]) hx hb dX5_putNow_30 hl (by decide) rfl (fun ls hl => ?_)
      have LP32 : ∀ (n32m : Nat), ∀ (aa : Nat) (k : Nat) (g : Nat → Int32) (f5 : Nat → Int32) (f6 : Nat → Int32) (f7 : Nat → Int32) (haa : aa ≤ nl) (hk : k ≤ nl) (hka : aa ≤ k) (haa2 : aa = posP (sdb (u.2 6) (u.2 7) (chV (u.2 1) (u.2 2) (u.2 3) (nI nv))) nl q) (h5 : shE f5 (u.2 5) nl k) (h6 : shE f6 (u.2 6) nl k) (h7 : shE f7 (u.2 7) nl k), (k < n32m) → ∀ (H : Heap) (locs : List Loc) (ls : Array Slot), PP G (mw G h (ln3 (oA u 26 g) f5 f6 f7) lt sj) H → va_D A (mw G h (ln3 (oA u 26 g) f5 f6 f7) lt sj) → va_S A s.heap H locs → lv_has ls 5 [(0, .ref (h 0)), (2, .int lett), (3, .int (nI aa)), (4, .int (nI k))] → W p l e (headSpec wsX5_putNow ({ frames := 3, cells := 0, slots := 0, locals := 67 })).room s m ([.ref (h 0), .int (nI q), .int lett] : List Value).toArray below meth c H locs 0 0 (MQ below (va_Qi (fun (r : Int32) (v : oS × Int64 × (Nat → Int64)) => ∃ g f5 f6 f7, v = (oI (ln3 (oA u 26 g) f5 f6 f7) 4 (nI (nl + 1)), lt, sj) ∧ rwE f5 (insP (u.2 5) (posP (sdb (u.2 6) (u.2 7) (chV (u.2 1) (u.2 2) (u.2 3) (nI nv))) nl q) lett) (nl + 1) ∧ rwE f6 (insP (u.2 6) (posP (sdb (u.2 6) (u.2 7) (chV (u.2 1) (u.2 2) (u.2 3) (nI nv))) nl q) (nI nv)) (nl + 1) ∧ rwE f7 (insP (u.2 7) (posP (sdb (u.2 6) (u.2 7) (chV (u.2 1) (u.2 2) (u.2 3) (nI nv))) nl q) (nI 0)) (nl + 1) ∧ r = nI (posP (sdb (u.2 6) (u.2 7) (chV (u.2 1) (u.2 2) (u.2 3) (nI nv))) nl q)) (fun v t => PP G (mw G h v.1 v.2.1 v.2.2) t.heap) A) ([.ref (h 0), .int (nI q), .int lett] : List Value).toArray s 0 0 A) (F0 m 32 ls []) := by
        intro n32m
        induction n32m with
        | zero => intro aa k g f5 f6 f7 haa hk hka haa2 h5 h6 h7 hmu H locs ls hP hD hS hl; exact absurd hmu (Nat.not_lt_zero _)
        | succ n32m ih32 =>
          intro aa k g f5 f6 f7 haa hk hka haa2 h5 h6 h7 hmu H locs ls hP hD hS hl
          refine lv_iload hx hb dX5_putNow_32 (lv_at hl 3 rfl) ?_
          refine lv_iload_n hx hb dX5_putNow_34 rfl (lv_at hl 2 rfl) ?_
          refine lv_icmp_le (tgt := 92) hx hb dX5_putNow_35 (by decide) (fun c35 => ?_) (fun c35 => ?_)
          · skip
            have n35 : k ≤ aa := (nI_leI (a := k) (b := aa) (by omega) (by omega)).mp c35
            refine lv_aload_n hx hb dX5_putNow_92 rfl (lv_at hl 0 rfl) ?_
            refine va_get (D := gD G) (ci := 5) (v := .ref (h 5)) (C := RX5) (T := TX5) (N := 38) hx hb hts hiX5 hown hK hP 0 rfl rfl 5 (by decide) k19 (fun _ h9 => h9) rfl dX5_putNow_93 ?_
            refine lv_iload_n hx hb dX5_putNow_96 rfl (lv_at hl 2 rfl) ?_
            refine lv_iload_n hx hb dX5_putNow_97 rfl (lv_at hl 1 rfl) ?_
            refine iastN (f := f5) (n := 120) (k := aa) hx hb hK hP hD hS 4 rfl rfl (by omega) dX5_putNow_98 (fun H locs hP hD hS => ?_)
            have hP : PP G (mw G h (oA (ln3 (oA u 26 g) f5 f6 f7) 5 (upd f5 aa lett)) lt sj) H := hP
            have hD : va_D A (mw G h (oA (ln3 (oA u 26 g) f5 f6 f7) 5 (upd f5 aa lett)) lt sj) := hD
            refine lv_aload_n hx hb dX5_putNow_99 rfl (lv_at hl 0 rfl) ?_
            refine va_get (D := gD G) (ci := 5) (v := .ref (h 6)) (C := RX5) (T := TX5) (N := 38) hx hb hts hiX5 hown hK hP 0 rfl rfl 6 (by decide) k22 (fun _ h9 => h9) rfl dX5_putNow_100 ?_
            refine lv_iload_n hx hb dX5_putNow_103 rfl (lv_at hl 2 rfl) ?_
            refine lv_aload_n hx hb dX5_putNow_104 rfl (lv_at hl 0 rfl) ?_
            refine va_get (D := gD G) (ci := 5) (v := .int ((oA (ln3 (oA u 26 g) f5 f6 f7) 5 (upd f5 aa lett)).1 0)) (C := RX5) (T := TX5) (N := 38) hx hb hts hiX5 hown hK hP 0 rfl rfl 0 (by decide) k91 (fun _ h9 => h9) rfl dX5_putNow_105 ?_
            refine topE hnv ?_
            refine iastN (f := f6) (n := 120) (k := aa) hx hb hK hP hD hS 5 rfl rfl (by omega) dX5_putNow_108 (fun H locs hP hD hS => ?_)
            have hP : PP G (mw G h (oA (oA (ln3 (oA u 26 g) f5 f6 f7) 5 (upd f5 aa lett)) 6 (upd f6 aa (nI nv))) lt sj) H := hP
            have hD : va_D A (mw G h (oA (oA (ln3 (oA u 26 g) f5 f6 f7) 5 (upd f5 aa lett)) 6 (upd f6 aa (nI nv))) lt sj) := hD
            refine lv_aload_n hx hb dX5_putNow_109 rfl (lv_at hl 0 rfl) ?_
            refine va_get (D := gD G) (ci := 5) (v := .ref (h 7)) (C := RX5) (T := TX5) (N := 38) hx hb hts hiX5 hown hK hP 0 rfl rfl 7 (by decide) k25 (fun _ h9 => h9) rfl dX5_putNow_110 ?_
            refine lv_iload_n hx hb dX5_putNow_113 rfl (lv_at hl 2 rfl) ?_
            refine lv_iconst (v := nI 0) hx hb dX5_putNow_114 (by decide) ?_
            refine iastN (f := f7) (n := 120) (k := aa) hx hb hK hP hD hS 6 rfl rfl (by omega) dX5_putNow_115 (fun H locs hP hD hS => ?_)
            have hP : PP G (mw G h (oA (oA (oA (ln3 (oA u 26 g) f5 f6 f7) 5 (upd f5 aa lett)) 6 (upd f6 aa (nI nv))) 7 (upd f7 aa (nI 0))) lt sj) H := hP
            have hD : va_D A (mw G h (oA (oA (oA (ln3 (oA u 26 g) f5 f6 f7) 5 (upd f5 aa lett)) 6 (upd f6 aa (nI nv))) 7 (upd f7 aa (nI 0))) lt sj) := hD
            refine lv_aload_n hx hb dX5_putNow_116 rfl (lv_at hl 0 rfl) ?_
            refine lv_dup hx hb dX5_putNow_117 rfl ?_
            refine va_get (D := gD G) (ci := 5) (v := .int ((oA (oA (oA (ln3 (oA u 26 g) f5 f6 f7) 5 (upd f5 aa lett)) 6 (upd f6 aa (nI nv))) 7 (upd f7 aa (nI 0))).1 4)) (C := RX5) (T := TX5) (N := 38) hx hb hts hiX5 hown hK hP 0 rfl rfl 4 (by decide) k175 (fun _ h9 => h9) rfl dX5_putNow_118 ?_
            refine topE hnl ?_
            refine lv_iconst (v := nI 1) hx hb dX5_putNow_121 (by decide) ?_
            refine lv_iadd hx hb dX5_putNow_122 ?_
            refine topE (y := nI (nl + 1)) (nI_add nl 1) ?_
            refine va_put (D := gD G) (ci := 5) (v := .int (nI (nl + 1))) (ty := .int) (C := RX5) (T := TX5) (N := 38) hx hb hts hiX5 tyX5 tyX5_ok nmX5 hown hK hP hD hS 0 rfl rfl 4 (by decide) k175 (fun _ h9 => h9) rfl (tyX5_ok 4 (by decide)) (rfl) (rfl) (Nat.le_of_ble_eq_true rfl) dX5_putNow_123 (fun H locs hP hD hS => ?_)
            have hP : PP G (mw G h (oI (oA (oA (oA (ln3 (oA u 26 g) f5 f6 f7) 5 (upd f5 aa lett)) 6 (upd f6 aa (nI nv))) 7 (upd f7 aa (nI 0))) 4 (nI (nl + 1))) lt sj) H := hP
            have hD : va_D A (mw G h (oI (oA (oA (oA (ln3 (oA u 26 g) f5 f6 f7) 5 (upd f5 aa lett)) 6 (upd f6 aa (nI nv))) 7 (upd f7 aa (nI 0))) 4 (nI (nl + 1))) lt sj) := hD
            refine lv_iload_n hx hb dX5_putNow_126 rfl (lv_at hl 2 rfl) ?_
            exact W.iret (v := nI aa) hx hb hr (fun t ht hW => ⟨⟨nI aa, (oI (oA (oA (oA (ln3 (oA u 26 g) f5 f6 f7) 5 (upd f5 aa lett)) 6 (upd f6 aa (nI nv))) 7 (upd f7 aa (nI 0))) 4 (nI (nl + 1)), lt, sj), rfl, ⟨g, _, _, _, congrArg (fun q => (oI q 4 (nI (nl + 1)), lt, sj)) (ln3_w _ _ _ _ _ _ _), (by rw [← haa2]; have ek : k = aa := (by omega); subst ek; exact shE_e h5 _), (by rw [← haa2]; have ek : k = aa := (by omega); subst ek; exact shE_e h6 _), (by rw [← haa2]; have ek : k = aa := (by omega); subst ek; exact shE_e h7 _), by rw [haa2]⟩, show PP G (mw G h (oI (oA (oA (oA (ln3 (oA u 26 g) f5 f6 f7) 5 (upd f5 aa lett)) 6 (upd f6 aa (nI nv))) 7 (upd f7 aa (nI 0))) 4 (nI (nl + 1))) lt sj) t.heap by rw [ht]; exact hP⟩, hS.F ht⟩) hS.2.2 dX5_putNow_127
          · skip
            have n35 : ¬ (k ≤ aa) := fun q9 => c35 ((nI_leI (a := k) (b := aa) (by omega) (by omega)).mpr q9)
            refine lv_aload_n hx hb dX5_putNow_38 rfl (lv_at hl 0 rfl) ?_
            refine va_get (D := gD G) (ci := 5) (v := .ref (h 5)) (C := RX5) (T := TX5) (N := 38) hx hb hts hiX5 hown hK hP 0 rfl rfl 5 (by decide) k19 (fun _ h9 => h9) rfl dX5_putNow_39 ?_
            refine lv_iload hx hb dX5_putNow_42 (lv_at hl 3 rfl) ?_
            refine lv_aload_n hx hb dX5_putNow_44 rfl (lv_at hl 0 rfl) ?_
            refine va_get (D := gD G) (ci := 5) (v := .ref (h 5)) (C := RX5) (T := TX5) (N := 38) hx hb hts hiX5 hown hK hP 0 rfl rfl 5 (by decide) k19 (fun _ h9 => h9) rfl dX5_putNow_45 ?_
            refine lv_iload hx hb dX5_putNow_48 (lv_at hl 3 rfl) ?_
            refine lv_iconst (v := nI 1) hx hb dX5_putNow_50 (by decide) ?_
            refine lv_isub hx hb dX5_putNow_51 ?_
            refine topE (y := nI (k - 1)) (pk_sub (by omega)) ?_
            refine ialdN (f := f5) (n := 120) (k := k - 1) hx hb hK hP 4 rfl rfl (by omega) dX5_putNow_52 ?_
            refine iastN (f := f5) (n := 120) (k := k) hx hb hK hP hD hS 4 rfl rfl (by omega) dX5_putNow_53 (fun H locs hP hD hS => ?_)
            have hP : PP G (mw G h (oA (ln3 (oA u 26 g) f5 f6 f7) 5 (upd f5 k (f5 (k - 1)))) lt sj) H := hP
            have hD : va_D A (mw G h (oA (ln3 (oA u 26 g) f5 f6 f7) 5 (upd f5 k (f5 (k - 1)))) lt sj) := hD
            refine lv_aload_n hx hb dX5_putNow_54 rfl (lv_at hl 0 rfl) ?_
            refine va_get (D := gD G) (ci := 5) (v := .ref (h 6)) (C := RX5) (T := TX5) (N := 38) hx hb hts hiX5 hown hK hP 0 rfl rfl 6 (by decide) k22 (fun _ h9 => h9) rfl dX5_putNow_55 ?_
            refine lv_iload hx hb dX5_putNow_58 (lv_at hl 3 rfl) ?_
            refine lv_aload_n hx hb dX5_putNow_60 rfl (lv_at hl 0 rfl) ?_
            refine va_get (D := gD G) (ci := 5) (v := .ref (h 6)) (C := RX5) (T := TX5) (N := 38) hx hb hts hiX5 hown hK hP 0 rfl rfl 6 (by decide) k22 (fun _ h9 => h9) rfl dX5_putNow_61 ?_
            refine lv_iload hx hb dX5_putNow_64 (lv_at hl 3 rfl) ?_
            refine lv_iconst (v := nI 1) hx hb dX5_putNow_66 (by decide) ?_
            refine lv_isub hx hb dX5_putNow_67 ?_
            refine topE (y := nI (k - 1)) (pk_sub (by omega)) ?_
            refine ialdN (f := f6) (n := 120) (k := k - 1) hx hb hK hP 5 rfl rfl (by omega) dX5_putNow_68 ?_
            refine iastN (f := f6) (n := 120) (k := k) hx hb hK hP hD hS 5 rfl rfl (by omega) dX5_putNow_69 (fun H locs hP hD hS => ?_)
            have hP : PP G (mw G h (oA (oA (ln3 (oA u 26 g) f5 f6 f7) 5 (upd f5 k (f5 (k - 1)))) 6 (upd f6 k (f6 (k - 1)))) lt sj) H := hP
            have hD : va_D A (mw G h (oA (oA (ln3 (oA u 26 g) f5 f6 f7) 5 (upd f5 k (f5 (k - 1)))) 6 (upd f6 k (f6 (k - 1)))) lt sj) := hD
            refine lv_aload_n hx hb dX5_putNow_70 rfl (lv_at hl 0 rfl) ?_
            refine va_get (D := gD G) (ci := 5) (v := .ref (h 7)) (C := RX5) (T := TX5) (N := 38) hx hb hts hiX5 hown hK hP 0 rfl rfl 7 (by decide) k25 (fun _ h9 => h9) rfl dX5_putNow_71 ?_
            refine lv_iload hx hb dX5_putNow_74 (lv_at hl 3 rfl) ?_
            refine lv_aload_n hx hb dX5_putNow_76 rfl (lv_at hl 0 rfl) ?_
            refine va_get (D := gD G) (ci := 5) (v := .ref (h 7)) (C := RX5) (T := TX5) (N := 38) hx hb hts hiX5 hown hK hP 0 rfl rfl 7 (by decide) k25 (fun _ h9 => h9) rfl dX5_putNow_77 ?_
            refine lv_iload hx hb dX5_putNow_80 (lv_at hl 3 rfl) ?_
            refine lv_iconst (v := nI 1) hx hb dX5_putNow_82 (by decide) ?_
            refine lv_isub hx hb dX5_putNow_83 ?_
            refine topE (y := nI (k - 1)) (pk_sub (by omega)) ?_
            refine ialdN (f := f7) (n := 120) (k := k - 1) hx hb hK hP 6 rfl rfl (by omega) dX5_putNow_84 ?_
            refine iastN (f := f7) (n := 120) (k := k) hx hb hK hP hD hS 6 rfl rfl (by omega) dX5_putNow_85 (fun H locs hP hD hS => ?_)
            have hP : PP G (mw G h (oA (oA (oA (ln3 (oA u 26 g) f5 f6 f7) 5 (upd f5 k (f5 (k - 1)))) 6 (upd f6 k (f6 (k - 1)))) 7 (upd f7 k (f7 (k - 1)))) lt sj) H := hP
            have hD : va_D A (mw G h (oA (oA (oA (ln3 (oA u 26 g) f5 f6 f7) 5 (upd f5 k (f5 (k - 1)))) 6 (upd f6 k (f6 (k - 1)))) 7 (upd f7 k (f7 (k - 1)))) lt sj) := hD
            refine lv_iinc (v := nI (k - 1)) (lv' := [(4, .int (nI (k - 1))), (0, .ref (h 0)), (2, .int lett), (3, .int (nI aa))]) hx hb dX5_putNow_86 hl (k := 3) rfl (nI_dec k (by omega)) (by decide) rfl (fun ls hl => ?_)
            refine lv_goto (tgt := 32) hx hb dX5_putNow_89 (by decide) ?_
            exact ih32 aa (k - 1) g (upd f5 k (f5 (k - 1))) (upd f6 k (f6 (k - 1))) (upd f7 k (f7 (k - 1))) (by first | assumption | omega) (by first | assumption | omega) (by first | assumption | omega) (haa2) (shE_s h5 (by omega) (by omega)) (shE_s h6 (by omega) (by omega)) (shE_s h7 (by omega) (by omega)) (by omega) _ _ ls hP hD hS (lv_sub hl [1, 2, 3, 0] rfl)
      exact LP32 (nl + 1) 0 nl g14 (u.2 5) (u.2 6) (u.2 7) (by first | assumption | omega) (by first | assumption | omega) (by first | assumption | omega) (by first | (unfold posP; rw [if_pos n1]) | (unfold posP; rw [if_neg n1, show fndN (sdb (u.2 6) (u.2 7) (chV (u.2 1) (u.2 2) (u.2 3) (nI nv))) nl (q - 1) = i20 from fndN_hit hp20 hq20 hi20, if_pos hi20]) | (unfold posP; rw [if_neg n1, show fndN (sdb (u.2 6) (u.2 7) (chV (u.2 1) (u.2 2) (u.2 3) (nI nv))) nl (q - 1) = nl from fndN_miss hq20, if_neg (Nat.lt_irrefl _)])) (shE_0 _ _) (shE_0 _ _) (shE_0 _ _) (Nat.lt_succ_self _) _ _ ls hP hD hS (lv_sub hl [2, 4, 1, 0] rfl)
  · skip
    have n1 : q = 0 := (nI_eq (a := q) (b := 0) (by omega) (by omega)).mp c1
    have hP := mw_self26 hP
    have hD : va_D A (mw G h (oA u 26 (u.2 26)) lt sj) := mw_self26D hD
    refine lv_iconst (v := nI 0) hx hb dX5_putNow_4 (by decide) ?_
    refine lv_goto (tgt := 25) hx hb dX5_putNow_5 (by decide) ?_
    refine lv_istore_n (lv' := [(3, .int (nI 0)), (0, .ref (h 0)), (1, .int (nI q)), (2, .int lett)]) hx hb dX5_putNow_25 rfl hl (by decide) rfl (fun ls hl => ?_)
    refine lv_aload_n hx hb dX5_putNow_26 rfl (lv_at hl 1 rfl) ?_
    refine va_get (D := gD G) (ci := 5) (v := .int (u.1 4)) (C := RX5) (T := TX5) (N := 38) hx hb hts hiX5 hown hK hP 0 rfl rfl 4 (by decide) k175 (fun _ h9 => h9) rfl dX5_putNow_27 ?_
    refine topE hnl ?_
    refine lv_istore (lv' := [(4, .int (nI nl)), (3, .int (nI 0)), (0, .ref (h 0)), (1, .int (nI q)), (2, .int lett)]) hx hb dX5_putNow_30 hl (by decide) rfl (fun ls hl => ?_)
    have LP32 : ∀ (n32m : Nat), ∀ (aa : Nat) (k : Nat) (g : Nat → Int32) (f5 : Nat → Int32) (f6 : Nat → Int32) (f7 : Nat → Int32) (haa : aa ≤ nl) (hk : k ≤ nl) (hka : aa ≤ k) (haa2 : aa = posP (sdb (u.2 6) (u.2 7) (chV (u.2 1) (u.2 2) (u.2 3) (nI nv))) nl q) (h5 : shE f5 (u.2 5) nl k) (h6 : shE f6 (u.2 6) nl k) (h7 : shE f7 (u.2 7) nl k), (k < n32m) → ∀ (H : Heap) (locs : List Loc) (ls : Array Slot), PP G (mw G h (ln3 (oA u 26 g) f5 f6 f7) lt sj) H → va_D A (mw G h (ln3 (oA u 26 g) f5 f6 f7) lt sj) → va_S A s.heap H locs → lv_has ls 5 [(0, .ref (h 0)), (2, .int lett), (3, .int (nI aa)), (4, .int (nI k))] → W p l e (headSpec wsX5_putNow ({ frames := 3, cells := 0, slots := 0, locals := 67 })).room s m ([.ref (h 0), .int (nI q), .int lett] : List Value).toArray below meth c H locs 0 0 (MQ below (va_Qi (fun (r : Int32) (v : oS × Int64 × (Nat → Int64)) => ∃ g f5 f6 f7, v = (oI (ln3 (oA u 26 g) f5 f6 f7) 4 (nI (nl + 1)), lt, sj) ∧ rwE f5 (insP (u.2 5) (posP (sdb (u.2 6) (u.2 7) (chV (u.2 1) (u.2 2) (u.2 3) (nI nv))) nl q) lett) (nl + 1) ∧ rwE f6 (insP (u.2 6) (posP (sdb (u.2 6) (u.2 7) (chV (u.2 1) (u.2 2) (u.2 3) (nI nv))) nl q) (nI nv)) (nl + 1) ∧ rwE f7 (insP (u.2 7) (posP (sdb (u.2 6) (u.2 7) (chV (u.2 1) (u.2 2) (u.2 3) (nI nv))) nl q) (nI 0)) (nl + 1) ∧ r = nI (posP (sdb (u.2 6) (u.2 7) (chV (u.2 1) (u.2 2) (u.2 3) (nI nv))) nl q)) (fun v t => PP G (mw G h v.1 v.2.1 v.2.2) t.heap) A) ([.ref (h 0), .int (nI q), .int lett] : List Value).toArray s 0 0 A) (F0 m 32 ls []) := by
      intro n32m
      induction n32m with
      | zero => intro aa k g f5 f6 f7 haa hk hka haa2 h5 h6 h7 hmu H locs ls hP hD hS hl; exact absurd hmu (Nat.not_lt_zero _)
      | succ n32m ih32 =>
        intro aa k g f5 f6 f7 haa hk hka haa2 h5 h6 h7 hmu H locs ls hP hD hS hl
        refine lv_iload hx hb dX5_putNow_32 (lv_at hl 3 rfl) ?_
        refine lv_iload_n hx hb dX5_putNow_34 rfl (lv_at hl 2 rfl) ?_
        refine lv_icmp_le (tgt := 92) hx hb dX5_putNow_35 (by decide) (fun c35 => ?_) (fun c35 => ?_)
        · skip
          have n35 : k ≤ aa := (nI_leI (a := k) (b := aa) (by omega) (by omega)).mp c35
          refine lv_aload_n hx hb dX5_putNow_92 rfl (lv_at hl 0 rfl) ?_
          refine va_get (D := gD G) (ci := 5) (v := .ref (h 5)) (C := RX5) (T := TX5) (N := 38) hx hb hts hiX5 hown hK hP 0 rfl rfl 5 (by decide) k19 (fun _ h9 => h9) rfl dX5_putNow_93 ?_
          refine lv_iload_n hx hb dX5_putNow_96 rfl (lv_at hl 2 rfl) ?_
          refine lv_iload_n hx hb dX5_putNow_97 rfl (lv_at hl 1 rfl) ?_
          refine iastN (f := f5) (n := 120) (k := aa) hx hb hK hP hD hS 4 rfl rfl (by omega) dX5_putNow_98 (fun H locs hP hD hS => ?_)
          have hP : PP G (mw G h (oA (ln3 (oA u 26 g) f5 f6 f7) 5 (upd f5 aa lett)) lt sj) H := hP
          have hD : va_D A (mw G h (oA (ln3 (oA u 26 g) f5 f6 f7) 5 (upd f5 aa lett)) lt sj) := hD
          refine lv_aload_n hx hb dX5_putNow_99 rfl (lv_at hl 0 rfl) ?_
          refine va_get (D := gD G) (ci := 5) (v := .ref (h 6)) (C := RX5) (T := TX5) (N := 38) hx hb hts hiX5 hown hK hP 0 rfl rfl 6 (by decide) k22 (fun _ h9 => h9) rfl dX5_putNow_100 ?_
          refine lv_iload_n hx hb dX5_putNow_103 rfl (lv_at hl 2 rfl) ?_
          refine lv_aload_n hx hb dX5_putNow_104 rfl (lv_at hl 0 rfl) ?_
          refine va_get (D := gD G) (ci := 5) (v := .int ((oA (ln3 (oA u 26 g) f5 f6 f7) 5 (upd f5 aa lett)).1 0)) (C := RX5) (T := TX5) (N := 38) hx hb hts hiX5 hown hK hP 0 rfl rfl 0 (by decide) k91 (fun _ h9 => h9) rfl dX5_putNow_105 ?_
          refine topE hnv ?_
          refine iastN (f := f6) (n := 120) (k := aa) hx hb hK hP hD hS 5 rfl rfl (by omega) dX5_putNow_108 (fun H locs hP hD hS => ?_)
          have hP : PP G (mw G h (oA (oA (ln3 (oA u 26 g) f5 f6 f7) 5 (upd f5 aa lett)) 6 (upd f6 aa (nI nv))) lt sj) H := hP
          have hD : va_D A (mw G h (oA (oA (ln3 (oA u 26 g) f5 f6 f7) 5 (upd f5 aa lett)) 6 (upd f6 aa (nI nv))) lt sj) := hD
          refine lv_aload_n hx hb dX5_putNow_109 rfl (lv_at hl 0 rfl) ?_
          refine va_get (D := gD G) (ci := 5) (v := .ref (h 7)) (C := RX5) (T := TX5) (N := 38) hx hb hts hiX5 hown hK hP 0 rfl rfl 7 (by decide) k25 (fun _ h9 => h9) rfl dX5_putNow_110 ?_
          refine lv_iload_n hx hb dX5_putNow_113 rfl (lv_at hl 2 rfl) ?_
          refine lv_iconst (v := nI 0) hx hb dX5_putNow_114 (by decide) ?_
          refine iastN (f := f7) (n := 120) (k := aa) hx hb hK hP hD hS 6 rfl rfl (by omega) dX5_putNow_115 (fun H locs hP hD hS => ?_)
          have hP : PP G (mw G h (oA (oA (oA (ln3 (oA u 26 g) f5 f6 f7) 5 (upd f5 aa lett)) 6 (upd f6 aa (nI nv))) 7 (upd f7 aa (nI 0))) lt sj) H := hP
          have hD : va_D A (mw G h (oA (oA (oA (ln3 (oA u 26 g) f5 f6 f7) 5 (upd f5 aa lett)) 6 (upd f6 aa (nI nv))) 7 (upd f7 aa (nI 0))) lt sj) := hD
          refine lv_aload_n hx hb dX5_putNow_116 rfl (lv_at hl 0 rfl) ?_
          refine lv_dup hx hb dX5_putNow_117 rfl ?_
          refine va_get (D := gD G) (ci := 5) (v := .int ((oA (oA (oA (ln3 (oA u 26 g) f5 f6 f7) 5 (upd f5 aa lett)) 6 (upd f6 aa (nI nv))) 7 (upd f7 aa (nI 0))).1 4)) (C := RX5) (T := TX5) (N := 38) hx hb hts hiX5 hown hK hP 0 rfl rfl 4 (by decide) k175 (fun _ h9 => h9) rfl dX5_putNow_118 ?_
          refine topE hnl ?_
          refine lv_iconst (v := nI 1) hx hb dX5_putNow_121 (by decide) ?_
          refine lv_iadd hx hb dX5_putNow_122 ?_
          refine topE (y := nI (nl + 1)) (nI_add nl 1) ?_
          refine va_put (D := gD G) (ci := 5) (v := .int (nI (nl + 1))) (ty := .int) (C := RX5) (T := TX5) (N := 38) hx hb hts hiX5 tyX5 tyX5_ok nmX5 hown hK hP hD hS 0 rfl rfl 4 (by decide) k175 (fun _ h9 => h9) rfl (tyX5_ok 4 (by decide)) (rfl) (rfl) (Nat.le_of_ble_eq_true rfl) dX5_putNow_123 (fun H locs hP hD hS => ?_)
          have hP : PP G (mw G h (oI (oA (oA (oA (ln3 (oA u 26 g) f5 f6 f7) 5 (upd f5 aa lett)) 6 (upd f6 aa (nI nv))) 7 (upd f7 aa (nI 0))) 4 (nI (nl + 1))) lt sj) H := hP
          have hD : va_D A (mw G h (oI (oA (oA (oA (ln3 (oA u 26 g) f5 f6 f7) 5 (upd f5 aa lett)) 6 (upd f6 aa (nI nv))) 7 (upd f7 aa (nI 0))) 4 (nI (nl + 1))) lt sj) := hD
          refine lv_iload_n hx hb dX5_putNow_126 rfl (lv_at hl 2 rfl) ?_
          exact W.iret (v := nI aa) hx hb hr (fun t ht hW => ⟨⟨nI aa, (oI (oA (oA (oA (ln3 (oA u 26 g) f5 f6 f7) 5 (upd f5 aa lett)) 6 (upd f6 aa (nI nv))) 7 (upd f7 aa (nI 0))) 4 (nI (nl + 1)), lt, sj), rfl, ⟨g, _, _, _, congrArg (fun q => (oI q 4 (nI (nl + 1)), lt, sj)) (ln3_w _ _ _ _ _ _ _), (by rw [← haa2]; have ek : k = aa := (by omega); subst ek; exact shE_e h5 _), (by rw [← haa2]; have ek : k = aa := (by omega); subst ek; exact shE_e h6 _), (by rw [← haa2]; have ek : k = aa := (by omega); subst ek; exact shE_e h7 _), by rw [haa2]⟩, show PP G (mw G h (oI (oA (oA (oA (ln3 (oA u 26 g) f5 f6 f7) 5 (upd f5 aa lett)) 6 (upd f6 aa (nI nv))) 7 (upd f7 aa (nI 0))) 4 (nI (nl + 1))) lt sj) t.heap by rw [ht]; exact hP⟩, hS.F ht⟩) hS.2.2 dX5_putNow_127
        · skip
          have n35 : ¬ (k ≤ aa) := fun q9 => c35 ((nI_leI (a := k) (b := aa) (by omega) (by omega)).mpr q9)
          refine lv_aload_n hx hb dX5_putNow_38 rfl (lv_at hl 0 rfl) ?_
          refine va_get (D := gD G) (ci := 5) (v := .ref (h 5)) (C := RX5) (T := TX5) (N := 38) hx hb hts hiX5 hown hK hP 0 rfl rfl 5 (by decide) k19 (fun _ h9 => h9) rfl dX5_putNow_39 ?_
          refine lv_iload hx hb dX5_putNow_42 (lv_at hl 3 rfl) ?_
          refine lv_aload_n hx hb dX5_putNow_44 rfl (lv_at hl 0 rfl) ?_
          refine va_get (D := gD G) (ci := 5) (v := .ref (h 5)) (C := RX5) (T := TX5) (N := 38) hx hb hts hiX5 hown hK hP 0 rfl rfl 5 (by decide) k19 (fun _ h9 => h9) rfl dX5_putNow_45 ?_
          refine lv_iload hx hb dX5_putNow_48 (lv_at hl 3 rfl) ?_
          refine lv_iconst (v := nI 1) hx hb dX5_putNow_50 (by decide) ?_
          refine lv_isub hx hb dX5_putNow_51 ?_
          refine topE (y := nI (k - 1)) (pk_sub (by omega)) ?_
          refine ialdN (f := f5) (n := 120) (k := k - 1) hx hb hK hP 4 rfl rfl (by omega) dX5_putNow_52 ?_
          refine iastN (f := f5) (n := 120) (k := k) hx hb hK hP hD hS 4 rfl rfl (by omega) dX5_putNow_53 (fun H locs hP hD hS => ?_)
          have hP : PP G (mw G h (oA (ln3 (oA u 26 g) f5 f6 f7) 5 (upd f5 k (f5 (k - 1)))) lt sj) H := hP
          have hD : va_D A (mw G h (oA (ln3 (oA u 26 g) f5 f6 f7) 5 (upd f5 k (f5 (k - 1)))) lt sj) := hD
          refine lv_aload_n hx hb dX5_putNow_54 rfl (lv_at hl 0 rfl) ?_
          refine va_get (D := gD G) (ci := 5) (v := .ref (h 6)) (C := RX5) (T := TX5) (N := 38) hx hb hts hiX5 hown hK hP 0 rfl rfl 6 (by decide) k22 (fun _ h9 => h9) rfl dX5_putNow_55 ?_
          refine lv_iload hx hb dX5_putNow_58 (lv_at hl 3 rfl) ?_
          refine lv_aload_n hx hb dX5_putNow_60 rfl (lv_at hl 0 rfl) ?_
          refine va_get (D := gD G) (ci := 5) (v := .ref (h 6)) (C := RX5) (T := TX5) (N := 38) hx hb hts hiX5 hown hK hP 0 rfl rfl 6 (by decide) k22 (fun _ h9 => h9) rfl dX5_putNow_61 ?_
          refine lv_iload hx hb dX5_putNow_64 (lv_at hl 3 rfl) ?_
          refine lv_iconst (v := nI 1) hx hb dX5_putNow_66 (by decide) ?_
          refine lv_isub hx hb dX5_putNow_67 ?_
          refine topE (y := nI (k - 1)) (pk_sub (by omega)) ?_
          refine ialdN (f := f6) (n := 120) (k := k - 1) hx hb hK hP 5 rfl rfl (by omega) dX5_putNow_68 ?_
          refine iastN (f := f6) (n := 120) (k := k) hx hb hK hP hD hS 5 rfl rfl (by omega) dX5_putNow_69 (fun H locs hP hD hS => ?_)
          have hP : PP G (mw G h (oA (oA (ln3 (oA u 26 g) f5 f6 f7) 5 (upd f5 k (f5 (k - 1)))) 6 (upd f6 k (f6 (k - 1)))) lt sj) H := hP
          have hD : va_D A (mw G h (oA (oA (ln3 (oA u 26 g) f5 f6 f7) 5 (upd f5 k (f5 (k - 1)))) 6 (upd f6 k (f6 (k - 1)))) lt sj) := hD
          refine lv_aload_n hx hb dX5_putNow_70 rfl (lv_at hl 0 rfl) ?_
          refine va_get (D := gD G) (ci := 5) (v := .ref (h 7)) (C := RX5) (T := TX5) (N := 38) hx hb hts hiX5 hown hK hP 0 rfl rfl 7 (by decide) k25 (fun _ h9 => h9) rfl dX5_putNow_71 ?_
          refine lv_iload hx hb dX5_putNow_74 (lv_at hl 3 rfl) ?_
          refine lv_aload_n hx hb dX5_putNow_76 rfl (lv_at hl 0 rfl) ?_
          refine va_get (D := gD G) (ci := 5) (v := .ref (h 7)) (C := RX5) (T := TX5) (N := 38) hx hb hts hiX5 hown hK hP 0 rfl rfl 7 (by decide) k25 (fun _ h9 => h9) rfl dX5_putNow_77 ?_
          refine lv_iload hx hb dX5_putNow_80 (lv_at hl 3 rfl) ?_
          refine lv_iconst (v := nI 1) hx hb dX5_putNow_82 (by decide) ?_
          refine lv_isub hx hb dX5_putNow_83 ?_
          refine topE (y := nI (k - 1)) (pk_sub (by omega)) ?_
          refine ialdN (f := f7) (n := 120) (k := k - 1) hx hb hK hP 6 rfl rfl (by omega) dX5_putNow_84 ?_
          refine iastN (f := f7) (n := 120) (k := k) hx hb hK hP hD hS 6 rfl rfl (by omega) dX5_putNow_85 (fun H locs hP hD hS => ?_)
          have hP : PP G (mw G h (oA (oA (oA (ln3 (oA u 26 g) f5 f6 f7) 5 (upd f5 k (f5 (k - 1)))) 6 (upd f6 k (f6 (k - 1)))) 7 (upd f7 k (f7 (k - 1)))) lt sj) H := hP
          have hD : va_D A (mw G h (oA (oA (oA (ln3 (oA u 26 g) f5 f6 f7) 5 (upd f5 k (f5 (k - 1)))) 6 (upd f6 k (f6 (k - 1)))) 7 (upd f7 k (f7 (k - 1)))) lt sj) := hD
          refine lv_iinc (v := nI (k - 1)) (lv' := [(4, .int (nI (k - 1))), (0, .ref (h 0)), (2, .int lett), (3, .int (nI aa))]) hx hb dX5_putNow_86 hl (k := 3) rfl (nI_dec k (by omega)) (by decide) rfl (fun ls hl => ?_)
          refine lv_goto (tgt := 32) hx hb dX5_putNow_89 (by decide) ?_
          exact ih32 aa (k - 1) g (upd f5 k (f5 (k - 1))) (upd f6 k (f6 (k - 1))) (upd f7 k (f7 (k - 1))) (by first | assumption | omega) (by first | assumption | omega) (by first | assumption | omega) (haa2) (shE_s h5 (by omega) (by omega)) (shE_s h6 (by omega) (by omega)) (shE_s h7 (by omega) (by omega)) (by omega) _ _ ls hP hD hS (lv_sub hl [1, 2, 3, 0] rfl)
    exact LP32 (nl + 1) 0 nl (u.2 26) (u.2 5) (u.2 6) (u.2 7) (by first | assumption | omega) (by first | assumption | omega) (by first | assumption | omega) (by first | (unfold posP; rw [if_pos n1]) | (unfold posP; rw [if_neg n1, show fndN (sdb (u.2 6) (u.2 7) (chV (u.2 1) (u.2 2) (u.2 3) (nI nv))) nl (q - 1) = i20 from fndN_hit hp20 hq20 hi20, if_pos hi20]) | (unfold posP; rw [if_neg n1, show fndN (sdb (u.2 6) (u.2 7) (chV (u.2 1) (u.2 2) (u.2 3) (nI nv))) nl (q - 1) = nl from fndN_miss hq20, if_neg (Nat.lt_irrefl _)])) (shE_0 _ _) (shE_0 _ _) (shE_0 _ _) (Nat.lt_succ_self _) _ _ ls hP hD hS (lv_sub hl [2, 4, 1, 0] rfl)
set_option maxHeartbeats 1000000 in
set_option maxRecDepth 100000 in
theorem mt_X5_takeNowF (l : Launch) (G : gG) (h : Nat → Nat) (sz : Nat) (u : oS) (lt : Int64) (sj : Nat → Int64) (nv : Nat) (nl : Nat) (i : Nat) (hnv : u.1 0 = nI nv) (hnl : u.1 4 = nI nl) (hnv24 : nv ≤ 24) (hnl120 : nl ≤ 120) (hi : i < nl) : Met l yX5_takeNow wsX5_takeNow ({ frames := 0, cells := 0, slots := 0, locals := 0 }) (preW G (mw G h u lt sj) sz [.ref (h 0), .int (nI i)]) (va_Qi (fun (r : Int32) (v : oS × Int64 × (Nat → Int64)) => (¬ u.2 6 i = nI nv ∧ v = (oA u 7 (upd (u.2 7) i (u.2 7 i ||| b1 nv)), lt, sj) ∧ r = u.2 5 i) ∨ (u.2 6 i = nI nv ∧ ∃ f5 f6 f7, v = (oI (ln3 u f5 f6 f7) 4 (nI (nl - 1)), lt, sj) ∧ rwE f5 (delP (u.2 5) i) (nl - 1) ∧ rwE f6 (delP (u.2 6) i) (nl - 1) ∧ rwE f7 (delP (u.2 7) i) (nl - 1) ∧ r = u.2 5 i)) (fun v t => PP G (mw G h v.1 v.2.1 v.2.2) t.heap) (va_A (mw G h u lt sj) sz)) 0 0 (va_A (mw G h u lt sj) sz) := by
  refine Met.ofW (cc := cX5_takeNow) (maxL := 4) (ret := (some .int)) (by decide) rfl ?_
  intro p e s m args below meth c s₁ B hml hv
  obtain ⟨ha, hsz, hP, hK, hN, hD0⟩ := hv
  subst ha
  have hx := B.exec
  have hb := B.bytes
  have hr := B.returns
  have hts := atoms_spec (ws := wsX5_takeNow) B.pre
  have hown : s.vm.findClass RX5 = some m.cls := findClass_of_methodNamed B.named
  have hlocks := B.notSynchronized
  subst hsz
  have hD := hD0.self (sz := s.heap.size)
  generalize hAe : va_A (mw G h u lt sj) s.heap.size = A at hD ⊢
  have hA : ∀ q : Nat, s.heap.size ≤ q → A q := fun q h => by rw [← hAe]; exact Or.inr h
  clear hAe hD0
  have hS : va_S A s.heap s.heap [] := va_S.rf
  have hiX5 : ∀ w ∈ wsX50, w ∈ wsX5_takeNow := fun w h9 => List.mem_cons_of_mem _ (List.mem_append_right _ (h9))
  have k19 := hts (.fieldLink RX5 19 "WovenHistoryModel" "letter" "[I") (List.mem_of_getElem? (i := 1) rfl)
  have k22 := hts (.fieldLink RX5 22 "WovenHistoryModel" "brought" "[I") (List.mem_of_getElem? (i := 2) rfl)
  have k91 := hts (.fieldLink RX5 91 "WovenHistoryModel" "versions" "I") (List.mem_of_getElem? (i := 3) rfl)
  have k25 := hts (.fieldLink RX5 25 "WovenHistoryModel" "took" "[I") (List.mem_of_getElem? (i := 4) rfl)
  have k175 := hts (.fieldLink RX5 175 "WovenHistoryModel" "lines" "I") (List.mem_of_getElem? (i := 5) rfl)
  have hl := lv_entry ([.ref (h 0), .int (nI i)]) (n := 4) (Nat.le_of_ble_eq_true rfl)
  rw [lg_entry_eq]
  generalize (lg_sl ([.ref (h 0), .int (nI i)]) ++ List.replicate (4 - (lg_sl ([.ref (h 0), .int (nI i)])).length) Slot.unset).toArray = ls at hl ⊢
  have hl : lv_has ls 4 [(0, .ref (h 0)), (1, .int (nI i))] := hl
  refine lv_aload_n hx hb dX5_takeNow_0 rfl (lv_at hl 0 rfl) ?_
  refine va_get (D := gD G) (ci := 5) (v := .ref (h 5)) (C := RX5) (T := TX5) (N := 38) hx hb hts hiX5 hown hK hP 0 rfl rfl 5 (by decide) k19 (fun _ h9 => h9) rfl dX5_takeNow_1 ?_
  refine lv_iload_n hx hb dX5_takeNow_4 rfl (lv_at hl 1 rfl) ?_
  refine ialdN (f := u.2 5) (n := 120) (k := i) hx hb hK hP 4 rfl rfl (by omega) dX5_takeNow_5 ?_
  refine lv_istore_n (lv' := [(2, .int ((u.2 5) i)), (0, .ref (h 0)), (1, .int (nI i))]) hx hb dX5_takeNow_6 rfl hl (by decide) rfl (fun ls hl => ?_)
  refine lv_aload_n hx hb dX5_takeNow_7 rfl (lv_at hl 1 rfl) ?_
  refine va_get (D := gD G) (ci := 5) (v := .ref (h 6)) (C := RX5) (T := TX5) (N := 38) hx hb hts hiX5 hown hK hP 0 rfl rfl 6 (by decide) k22 (fun _ h9 => h9) rfl dX5_takeNow_8 ?_
  refine lv_iload_n hx hb dX5_takeNow_11 rfl (lv_at hl 2 rfl) ?_
  refine ialdN (f := u.2 6) (n := 120) (k := i) hx hb hK hP 5 rfl rfl (by omega) dX5_takeNow_12 ?_
  refine lv_aload_n hx hb dX5_takeNow_13 rfl (lv_at hl 1 rfl) ?_
  refine va_get (D := gD G) (ci := 5) (v := .int (u.1 0)) (C := RX5) (T := TX5) (N := 38) hx hb hts hiX5 hown hK hP 0 rfl rfl 0 (by decide) k91 (fun _ h9 => h9) rfl dX5_takeNow_14 ?_
  refine topE hnv ?_
  refine lv_icmp_eq (tgt := 37) hx hb dX5_takeNow_17 (by decide) (fun c17 => ?_) (fun c17 => ?_)
  · skip
    refine lv_iload_n hx hb dX5_takeNow_37 rfl (lv_at hl 2 rfl) ?_
    refine lv_iconst (v := nI 1) hx hb dX5_takeNow_38 (by decide) ?_
    refine lv_iadd hx hb dX5_takeNow_39 ?_
    refine topE (y := nI (i + 1)) (nI_add i 1) ?_
    refine lv_istore_n (lv' := [(3, .int (nI (i + 1))), (2, .int ((u.2 5) i)), (0, .ref (h 0)), (1, .int (nI i))]) hx hb dX5_takeNow_40 rfl hl (by decide) rfl (fun ls hl => ?_)
    have LP41 : ∀ (n41m : Nat), ∀ (k : Nat) (f5 : Nat → Int32) (f6 : Nat → Int32) (f7 : Nat → Int32) (hk : k ≤ nl) (hk1 : i < k) (h5 : dnE f5 (u.2 5) i k) (h6 : dnE f6 (u.2 6) i k) (h7 : dnE f7 (u.2 7) i k), (nl - k < n41m) → ∀ (H : Heap) (locs : List Loc) (ls : Array Slot), PP G (mw G h (ln3 u f5 f6 f7) lt sj) H → va_D A (mw G h (ln3 u f5 f6 f7) lt sj) → va_S A s.heap H locs → lv_has ls 4 [(0, .ref (h 0)), (2, .int (u.2 5 i)), (3, .int (nI k))] → W p l e (headSpec wsX5_takeNow ({ frames := 0, cells := 0, slots := 0, locals := 0 })).room s m ([.ref (h 0), .int (nI i)] : List Value).toArray below meth c H locs 0 0 (MQ below (va_Qi (fun (r : Int32) (v : oS × Int64 × (Nat → Int64)) => (¬ u.2 6 i = nI nv ∧ v = (oA u 7 (upd (u.2 7) i (u.2 7 i ||| b1 nv)), lt, sj) ∧ r = u.2 5 i) ∨ (u.2 6 i = nI nv ∧ ∃ f5 f6 f7, v = (oI (ln3 u f5 f6 f7) 4 (nI (nl - 1)), lt, sj) ∧ rwE f5 (delP (u.2 5) i) (nl - 1) ∧ rwE f6 (delP (u.2 6) i) (nl - 1) ∧ rwE f7 (delP (u.2 7) i) (nl - 1) ∧ r = u.2 5 i)) (fun v t => PP G (mw G h v.1 v.2.1 v.2.2) t.heap) A) ([.ref (h 0), .int (nI i)] : List Value).toArray s 0 0 A) (F0 m 41 ls []) := by
      intro n41m
      induction n41m with
      | zero => intro k f5 f6 f7 hk hk1 h5 h6 h7 hmu H locs ls hP hD hS hl; exact absurd hmu (Nat.not_lt_zero _)
      | succ n41m ih41 =>
        intro k f5 f6 f7 hk hk1 h5 h6 h7 hmu H locs ls hP hD hS hl
        refine lv_iload_n hx hb dX5_takeNow_41 rfl (lv_at hl 2 rfl) ?_
        refine lv_aload_n hx hb dX5_takeNow_42 rfl (lv_at hl 0 rfl) ?_
        refine va_get (D := gD G) (ci := 5) (v := .int ((ln3 u f5 f6 f7).1 4)) (C := RX5) (T := TX5) (N := 38) hx hb hts hiX5 hown hK hP 0 rfl rfl 4 (by decide) k175 (fun _ h9 => h9) rfl dX5_takeNow_43 ?_
        refine topE hnl ?_
        refine lv_icmp_ge (tgt := 97) hx hb dX5_takeNow_46 (by decide) (fun c46 => ?_) (fun c46 => ?_)
        · skip
          have n46 : nl ≤ k := (nI_leI (a := nl) (b := k) (by omega) (by omega)).mp c46
          refine lv_aload_n hx hb dX5_takeNow_97 rfl (lv_at hl 0 rfl) ?_
          refine lv_dup hx hb dX5_takeNow_98 rfl ?_
          refine va_get (D := gD G) (ci := 5) (v := .int ((ln3 u f5 f6 f7).1 4)) (C := RX5) (T := TX5) (N := 38) hx hb hts hiX5 hown hK hP 0 rfl rfl 4 (by decide) k175 (fun _ h9 => h9) rfl dX5_takeNow_99 ?_
          refine topE hnl ?_
          refine lv_iconst (v := nI 1) hx hb dX5_takeNow_102 (by decide) ?_
          refine lv_isub hx hb dX5_takeNow_103 ?_
          refine topE (y := nI (nl - 1)) (pk_sub (by omega)) ?_
          refine va_put (D := gD G) (ci := 5) (v := .int (nI (nl - 1))) (ty := .int) (C := RX5) (T := TX5) (N := 38) hx hb hts hiX5 tyX5 tyX5_ok nmX5 hown hK hP hD hS 0 rfl rfl 4 (by decide) k175 (fun _ h9 => h9) rfl (tyX5_ok 4 (by decide)) (rfl) (rfl) (Nat.le_of_ble_eq_true rfl) dX5_takeNow_104 (fun H locs hP hD hS => ?_)
          have hP : PP G (mw G h (oI (ln3 u f5 f6 f7) 4 (nI (nl - 1))) lt sj) H := hP
          have hD : va_D A (mw G h (oI (ln3 u f5 f6 f7) 4 (nI (nl - 1))) lt sj) := hD
          refine lv_iload_n hx hb dX5_takeNow_107 rfl (lv_at hl 1 rfl) ?_
          exact W.iret (v := u.2 5 i) hx hb hr (fun t ht hW => ⟨⟨u.2 5 i, (oI (ln3 u f5 f6 f7) 4 (nI (nl - 1)), lt, sj), rfl, Or.inr ⟨c17, f5, f6, f7, rfl, (by have ek : k = nl := (by omega); rw [← ek]; exact dnE_e h5), (by have ek : k = nl := (by omega); rw [← ek]; exact dnE_e h6), (by have ek : k = nl := (by omega); rw [← ek]; exact dnE_e h7), rfl⟩, show PP G (mw G h (oI (ln3 u f5 f6 f7) 4 (nI (nl - 1))) lt sj) t.heap by rw [ht]; exact hP⟩, hS.F ht⟩) hS.2.2 dX5_takeNow_108
        · skip
          have n46 : ¬ (nl ≤ k) := fun q9 => c46 ((nI_leI (a := nl) (b := k) (by omega) (by omega)).mpr q9)
          refine lv_aload_n hx hb dX5_takeNow_49 rfl (lv_at hl 0 rfl) ?_
          refine va_get (D := gD G) (ci := 5) (v := .ref (h 5)) (C := RX5) (T := TX5) (N := 38) hx hb hts hiX5 hown hK hP 0 rfl rfl 5 (by decide) k19 (fun _ h9 => h9) rfl dX5_takeNow_50 ?_
          refine lv_iload_n hx hb dX5_takeNow_53 rfl (lv_at hl 2 rfl) ?_
          refine lv_iconst (v := nI 1) hx hb dX5_takeNow_54 (by decide) ?_
          refine lv_isub hx hb dX5_takeNow_55 ?_
          refine topE (y := nI (k - 1)) (pk_sub (by omega)) ?_
          refine lv_aload_n hx hb dX5_takeNow_56 rfl (lv_at hl 0 rfl) ?_
          refine va_get (D := gD G) (ci := 5) (v := .ref (h 5)) (C := RX5) (T := TX5) (N := 38) hx hb hts hiX5 hown hK hP 0 rfl rfl 5 (by decide) k19 (fun _ h9 => h9) rfl dX5_takeNow_57 ?_
          refine lv_iload_n hx hb dX5_takeNow_60 rfl (lv_at hl 2 rfl) ?_
          refine ialdN (f := f5) (n := 120) (k := k) hx hb hK hP 4 rfl rfl (by omega) dX5_takeNow_61 ?_
          refine iastN (f := f5) (n := 120) (k := k - 1) hx hb hK hP hD hS 4 rfl rfl (by omega) dX5_takeNow_62 (fun H locs hP hD hS => ?_)
          have hP : PP G (mw G h (oA (ln3 u f5 f6 f7) 5 (upd f5 (k - 1) (f5 k))) lt sj) H := hP
          have hD : va_D A (mw G h (oA (ln3 u f5 f6 f7) 5 (upd f5 (k - 1) (f5 k))) lt sj) := hD
          refine lv_aload_n hx hb dX5_takeNow_63 rfl (lv_at hl 0 rfl) ?_
          refine va_get (D := gD G) (ci := 5) (v := .ref (h 6)) (C := RX5) (T := TX5) (N := 38) hx hb hts hiX5 hown hK hP 0 rfl rfl 6 (by decide) k22 (fun _ h9 => h9) rfl dX5_takeNow_64 ?_
          refine lv_iload_n hx hb dX5_takeNow_67 rfl (lv_at hl 2 rfl) ?_
          refine lv_iconst (v := nI 1) hx hb dX5_takeNow_68 (by decide) ?_
          refine lv_isub hx hb dX5_takeNow_69 ?_
          refine topE (y := nI (k - 1)) (pk_sub (by omega)) ?_
          refine lv_aload_n hx hb dX5_takeNow_70 rfl (lv_at hl 0 rfl) ?_
          refine va_get (D := gD G) (ci := 5) (v := .ref (h 6)) (C := RX5) (T := TX5) (N := 38) hx hb hts hiX5 hown hK hP 0 rfl rfl 6 (by decide) k22 (fun _ h9 => h9) rfl dX5_takeNow_71 ?_
          refine lv_iload_n hx hb dX5_takeNow_74 rfl (lv_at hl 2 rfl) ?_
          refine ialdN (f := f6) (n := 120) (k := k) hx hb hK hP 5 rfl rfl (by omega) dX5_takeNow_75 ?_
          refine iastN (f := f6) (n := 120) (k := k - 1) hx hb hK hP hD hS 5 rfl rfl (by omega) dX5_takeNow_76 (fun H locs hP hD hS => ?_)
          have hP : PP G (mw G h (oA (oA (ln3 u f5 f6 f7) 5 (upd f5 (k - 1) (f5 k))) 6 (upd f6 (k - 1) (f6 k))) lt sj) H := hP
          have hD : va_D A (mw G h (oA (oA (ln3 u f5 f6 f7) 5 (upd f5 (k - 1) (f5 k))) 6 (upd f6 (k - 1) (f6 k))) lt sj) := hD
          refine lv_aload_n hx hb dX5_takeNow_77 rfl (lv_at hl 0 rfl) ?_
          refine va_get (D := gD G) (ci := 5) (v := .ref (h 7)) (C := RX5) (T := TX5) (N := 38) hx hb hts hiX5 hown hK hP 0 rfl rfl 7 (by decide) k25 (fun _ h9 => h9) rfl dX5_takeNow_78 ?_
          refine lv_iload_n hx hb dX5_takeNow_81 rfl (lv_at hl 2 rfl) ?_
          refine lv_iconst (v := nI 1) hx hb dX5_takeNow_82 (by decide) ?_
          refine lv_isub hx hb dX5_takeNow_83 ?_
          refine topE (y := nI (k - 1)) (pk_sub (by omega)) ?_
          refine lv_aload_n hx hb dX5_takeNow_84 rfl (lv_at hl 0 rfl) ?_
          refine va_get (D := gD G) (ci := 5) (v := .ref (h 7)) (C := RX5) (T := TX5) (N := 38) hx hb hts hiX5 hown hK hP 0 rfl rfl 7 (by decide) k25 (fun _ h9 => h9) rfl dX5_takeNow_85 ?_
          refine lv_iload_n hx hb dX5_takeNow_88 rfl (lv_at hl 2 rfl) ?_
          refine ialdN (f := f7) (n := 120) (k := k) hx hb hK hP 6 rfl rfl (by omega) dX5_takeNow_89 ?_
          refine iastN (f := f7) (n := 120) (k := k - 1) hx hb hK hP hD hS 6 rfl rfl (by omega) dX5_takeNow_90 (fun H locs hP hD hS => ?_)
          have hP : PP G (mw G h (oA (oA (oA (ln3 u f5 f6 f7) 5 (upd f5 (k - 1) (f5 k))) 6 (upd f6 (k - 1) (f6 k))) 7 (upd f7 (k - 1) (f7 k))) lt sj) H := hP
          have hD : va_D A (mw G h (oA (oA (oA (ln3 u f5 f6 f7) 5 (upd f5 (k - 1) (f5 k))) 6 (upd f6 (k - 1) (f6 k))) 7 (upd f7 (k - 1) (f7 k))) lt sj) := hD
          refine lv_iinc (v := nI (k + 1)) (lv' := [(3, .int (nI (k + 1))), (0, .ref (h 0)), (2, .int (u.2 5 i))]) hx hb dX5_takeNow_91 hl (k := 2) rfl (nI_1 k) (by decide) rfl (fun ls hl => ?_)
          refine lv_goto (tgt := 41) hx hb dX5_takeNow_94 (by decide) ?_
          exact ih41 (k + 1) (upd f5 (k - 1) (f5 k)) (upd f6 (k - 1) (f6 k)) (upd f7 (k - 1) (f7 k)) (by first | assumption | omega) (by first | assumption | omega) (dnE_s h5 (by omega)) (dnE_s h6 (by omega)) (dnE_s h7 (by omega)) (by omega) _ _ ls hP hD hS (lv_sub hl [1, 2, 0] rfl)
    exact LP41 (nl - (i + 1) + 1) (i + 1) (u.2 5) (u.2 6) (u.2 7) (by first | assumption | omega) (by first | assumption | omega) (dnE_0 _ _) (dnE_0 _ _) (dnE_0 _ _) (Nat.lt_succ_self _) _ _ ls hP hD hS (lv_sub hl [2, 1, 0] rfl)
  · skip
    refine lv_aload_n hx hb dX5_takeNow_20 rfl (lv_at hl 1 rfl) ?_
    refine va_get (D := gD G) (ci := 5) (v := .ref (h 7)) (C := RX5) (T := TX5) (N := 38) hx hb hts hiX5 hown hK hP 0 rfl rfl 7 (by decide) k25 (fun _ h9 => h9) rfl dX5_takeNow_21 ?_
    refine lv_iload_n hx hb dX5_takeNow_24 rfl (lv_at hl 2 rfl) ?_
    refine lv_dup2_11 hx hb dX5_takeNow_25 rfl rfl ?_
    refine ialdN (f := u.2 7) (n := 120) (k := i) hx hb hK hP 6 rfl rfl (by omega) dX5_takeNow_26 ?_
    refine lv_iconst (v := (1 : Int32)) hx hb dX5_takeNow_27 (by decide) ?_
    refine lv_aload_n hx hb dX5_takeNow_28 rfl (lv_at hl 1 rfl) ?_
    refine va_get (D := gD G) (ci := 5) (v := .int (u.1 0)) (C := RX5) (T := TX5) (N := 38) hx hb hts hiX5 hown hK hP 0 rfl rfl 0 (by decide) k91 (fun _ h9 => h9) rfl dX5_takeNow_29 ?_
    refine topE hnv ?_
    refine lv_ishl hx hb dX5_takeNow_32 ?_
    refine lv_ior hx hb dX5_takeNow_33 ?_
    refine iastN (f := u.2 7) (n := 120) (k := i) hx hb hK hP hD hS 6 rfl rfl (by omega) dX5_takeNow_34 (fun H locs hP hD hS => ?_)
    have hP : PP G (mw G h (oA u 7 (upd (u.2 7) i (((u.2 7) i) ||| ((1 : Int32) <<< ((nI nv) &&& 31))))) lt sj) H := hP
    have hD : va_D A (mw G h (oA u 7 (upd (u.2 7) i (((u.2 7) i) ||| ((1 : Int32) <<< ((nI nv) &&& 31))))) lt sj) := hD
    refine lv_iload_n hx hb dX5_takeNow_35 rfl (lv_at hl 0 rfl) ?_
    exact W.iret (v := (u.2 5) i) hx hb hr (fun t ht hW => ⟨⟨(u.2 5) i, (oA u 7 (upd (u.2 7) i (((u.2 7) i) ||| ((1 : Int32) <<< ((nI nv) &&& 31)))), lt, sj), rfl, Or.inl ⟨c17, rfl, rfl⟩, show PP G (mw G h (oA u 7 (upd (u.2 7) i (((u.2 7) i) ||| ((1 : Int32) <<< ((nI nv) &&& 31))))) lt sj) t.heap by rw [ht]; exact hP⟩, hS.F ht⟩) hS.2.2 dX5_takeNow_36
set_option maxHeartbeats 1000000 in
set_option maxRecDepth 100000 in
theorem mt_X5_lotByF (l : Launch) (G : gG) (h : Nat → Nat) (sz : Nat) (u : oS) (lt : Int64) (sj : Nat → Int64) (x : Nat) (n0 : Nat) (hlt : lt = lN x) (hxx : x < 2147483647) (hn0 : 0 < n0) (hn1 : n0 < 2147483648) : Met l yX5_lotBy wsX5_lotBy ({ frames := 0, cells := 0, slots := 0, locals := 0 }) (preW G (mw G h u lt sj) sz [.ref (h 0), .int (nI n0)]) (va_Qi (fun (r : Int32) (v : oS × Int64 × (Nat → Int64)) => v = (u, lN (lot1 x), sj) ∧ r = nI (lot1 x % n0)) (fun v t => PP G (mw G h v.1 v.2.1 v.2.2) t.heap) (va_A (mw G h u lt sj) sz)) 0 0 (va_A (mw G h u lt sj) sz) := by
  refine Met.ofW (cc := cX5_lotBy) (maxL := 2) (ret := (some .int)) (by decide) rfl ?_
  intro p e s m args below meth c s₁ B hml hv
  obtain ⟨ha, hsz, hP, hK, hN, hD0⟩ := hv
  subst ha
  have hx := B.exec
  have hb := B.bytes
  have hr := B.returns
  have hts := atoms_spec (ws := wsX5_lotBy) B.pre
  have hown : s.vm.findClass RX5 = some m.cls := findClass_of_methodNamed B.named
  have hlocks := B.notSynchronized
  subst hsz
  have hD := hD0.self (sz := s.heap.size)
  generalize hAe : va_A (mw G h u lt sj) s.heap.size = A at hD ⊢
  have hA : ∀ q : Nat, s.heap.size ≤ q → A q := fun q h => by rw [← hAe]; exact Or.inr h
  clear hAe hD0
  have hS : va_S A s.heap s.heap [] := va_S.rf
  have hiX5 : ∀ w ∈ wsX50, w ∈ wsX5_lotBy := fun w h9 => List.mem_cons_of_mem _ (List.mem_append_right _ (h9))
  have k248 := hts (.fieldLink RX5 248 "WovenHistoryModel" "lot" "J") (List.mem_of_getElem? (i := 1) rfl)
  have hl := lv_entry ([.ref (h 0), .int (nI n0)]) (n := 2) (Nat.le_of_ble_eq_true rfl)
  rw [lg_entry_eq]
  generalize (lg_sl ([.ref (h 0), .int (nI n0)]) ++ List.replicate (2 - (lg_sl ([.ref (h 0), .int (nI n0)])).length) Slot.unset).toArray = ls at hl ⊢
  have hl : lv_has ls 2 [(0, .ref (h 0)), (1, .int (nI n0))] := hl
  subst hlt
  refine lv_aload_n hx hb dX5_lotBy_0 rfl (lv_at hl 0 rfl) ?_
  refine lv_aload_n hx hb dX5_lotBy_1 rfl (lv_at hl 0 rfl) ?_
  refine va_get (D := gD G) (ci := 5) (v := .long (lN x)) (C := RX5) (T := TX5) (N := 38) hx hb hts hiX5 hown hK hP 0 rfl rfl 31 (by decide) k248 (fun _ h9 => h9) rfl dX5_lotBy_2 ?_
  refine lv_ldc2 (v := 16807) hx hb hown (hts (.constantLong RX5 252 (16807)) (List.mem_of_getElem? (i := 2) rfl)) dX5_lotBy_5 ?_
  refine lv_lmul hx hb dX5_lotBy_8 ?_
  refine topLE (y := lN (x * 16807)) (lN_mul x 16807) ?_
  refine lv_ldc2 (v := 2147483647) hx hb hown (hts (.constantLong RX5 254 (2147483647)) (List.mem_of_getElem? (i := 3) rfl)) dX5_lotBy_9 ?_
  refine lv_lrem hx hb dX5_lotBy_12 (by decide) ?_
  refine topLE (y := lN (x * 16807 % 2147483647)) (pk_lRem (a := x * 16807) (b := 2147483647) (by omega) (by omega) (by omega)) ?_
  refine va_put (D := gD G) (ci := 5) (v := .long (lN (x * 16807 % 2147483647))) (ty := .long) (C := RX5) (T := TX5) (N := 38) hx hb hts hiX5 tyX5 tyX5_ok nmX5 hown hK hP hD hS 0 rfl rfl 31 (by decide) k248 (fun _ h9 => h9) rfl (tyX5_ok 31 (by decide)) (rfl) (rfl) (Nat.le_of_ble_eq_true rfl) dX5_lotBy_13 (fun H locs hP hD hS => ?_)
  have hP : PP G (mw G h u (lN (x * 16807 % 2147483647)) sj) H := hP
  have hD : va_D A (mw G h u (lN (x * 16807 % 2147483647)) sj) := hD
  refine lv_aload_n hx hb dX5_lotBy_16 rfl (lv_at hl 0 rfl) ?_
  refine va_get (D := gD G) (ci := 5) (v := .long (lN (x * 16807 % 2147483647))) (C := RX5) (T := TX5) (N := 38) hx hb hts hiX5 hown hK hP 0 rfl rfl 31 (by decide) k248 (fun _ h9 => h9) rfl dX5_lotBy_17 ?_
  refine lv_iload_n hx hb dX5_lotBy_20 rfl (lv_at hl 1 rfl) ?_
  refine lv_i2l (v := lN n0) hx hb dX5_lotBy_21 (nI_l (by omega)) ?_
  refine lv_lrem hx hb dX5_lotBy_22 (lN_ne0 hn0 hn1) ?_
  refine topLE (y := lN (x * 16807 % 2147483647 % n0)) (pk_lRem (a := x * 16807 % 2147483647) (b := n0) (by omega) (by omega) (by omega)) ?_
  refine lv_l2i (v := (lN (x * 16807 % 2147483647 % n0)).toInt32) hx hb dX5_lotBy_23 rfl ?_
  refine topE (lN_i _) ?_
  exact W.iret (v := nI (x * 16807 % 2147483647 % n0)) hx hb hr (fun t ht hW => ⟨⟨nI (x * 16807 % 2147483647 % n0), (u, lN (x * 16807 % 2147483647), sj), rfl, ⟨rfl, rfl⟩, show PP G (mw G h u (lN (x * 16807 % 2147483647)) sj) t.heap by rw [ht]; exact hP⟩, hS.F ht⟩) hS.2.2 dX5_lotBy_24
set_option maxHeartbeats 1000000 in
set_option maxRecDepth 100000 in
theorem mt_X5_lifeOfF (l : Launch) (G : gG) (h : Nat → Nat) (sz : Nat) (u : oS) (lt : Int64) (sj : Nat → Int64) (g0 : Nat → Int32) (nv : Nat) (ii : Nat) (hnv : u.1 0 = nI nv) (hnv24 : nv ≤ 24) (hii : ii < 120) (hparV : parOK (u.2 1) nv) : Met l yX5_lifeOf wsX5_lifeOf ({ frames := 2, cells := 0, slots := 0, locals := 43 }) (preW G (mw G h (oA u 26 g0) lt sj) sz [.ref (h 0), .int (nI ii)]) (va_Qi (fun (r : Int32) (v : oS × Int64 × (Nat → Int64)) => ∃ g, v = (oA u 26 g, lt, sj) ∧ r = lifF (fun v => sdb (u.2 6) (u.2 7) (chV (u.2 1) (u.2 2) (u.2 3) (nI v)) ii) nv) (fun v t => PP G (mw G h v.1 v.2.1 v.2.2) t.heap) (va_A (mw G h (oA u 26 g0) lt sj) sz)) 0 0 (va_A (mw G h (oA u 26 g0) lt sj) sz) := by
  refine Met.ofW (cc := cX5_lifeOf) (maxL := 4) (ret := (some .int)) (by decide) rfl ?_
  intro p e s m args below meth c s₁ B hml hv
  obtain ⟨ha, hsz, hP, hK, hN, hD0⟩ := hv
  subst ha
  have hx := B.exec
  have hb := B.bytes
  have hr := B.returns
  have hts := atoms_spec (ws := wsX5_lifeOf) B.pre
  have hown : s.vm.findClass RX5 = some m.cls := findClass_of_methodNamed B.named
  have hlocks := B.notSynchronized
  subst hsz
  have hD := hD0.self (sz := s.heap.size)
  generalize hAe : va_A (mw G h (oA u 26 g0) lt sj) s.heap.size = A at hD ⊢
  have hA : ∀ q : Nat, s.heap.size ≤ q → A q := fun q h => by rw [← hAe]; exact Or.inr h
  clear hAe hD0
  have hS : va_S A s.heap s.heap [] := va_S.rf
  have hiX5 : ∀ w ∈ wsX50, w ∈ wsX5_lifeOf := fun w h9 => List.mem_cons_of_mem _ (List.mem_append_right _ (h9))
  have k91 := hts (.fieldLink RX5 91 "WovenHistoryModel" "versions" "I") (List.mem_of_getElem? (i := 1) rfl)
  have hl := lv_entry ([.ref (h 0), .int (nI ii)]) (n := 4) (Nat.le_of_ble_eq_true rfl)
  rw [lg_entry_eq]
  generalize (lg_sl ([.ref (h 0), .int (nI ii)]) ++ List.replicate (4 - (lg_sl ([.ref (h 0), .int (nI ii)])).length) Slot.unset).toArray = ls at hl ⊢
  have hl : lv_has ls 4 [(0, .ref (h 0)), (1, .int (nI ii))] := hl
  refine lv_iconst (v := nI 0) hx hb dX5_lifeOf_0 (by decide) ?_
  refine lv_istore_n (lv' := [(2, .int (nI 0)), (0, .ref (h 0)), (1, .int (nI ii))]) hx hb dX5_lifeOf_1 rfl hl (by decide) rfl (fun ls hl => ?_)
  refine lv_iconst (v := nI 0) hx hb dX5_lifeOf_2 (by decide) ?_
  refine lv_istore_n (lv' := [(3, .int (nI 0)), (2, .int (nI 0)), (0, .ref (h 0)), (1, .int (nI ii))]) hx hb dX5_lifeOf_3 rfl hl (by decide) rfl (fun ls hl => ?_)
  have LP4 : ∀ (n4m : Nat), ∀ (k : Nat) (x : Int32) (g : Nat → Int32) (hk : k ≤ nv) (hx9 : x = lifF (fun v => sdb (u.2 6) (u.2 7) (chV (u.2 1) (u.2 2) (u.2 3) (nI v)) ii) k), (nv - k < n4m) → ∀ (H : Heap) (locs : List Loc) (ls : Array Slot), PP G (mw G h (oA u 26 g) lt sj) H → va_D A (mw G h (oA u 26 g) lt sj) → va_S A s.heap H locs → lv_has ls 4 [(0, .ref (h 0)), (1, .int (nI ii)), (2, .int x), (3, .int (nI k))] → W p l e (headSpec wsX5_lifeOf ({ frames := 2, cells := 0, slots := 0, locals := 43 })).room s m ([.ref (h 0), .int (nI ii)] : List Value).toArray below meth c H locs 0 0 (MQ below (va_Qi (fun (r : Int32) (v : oS × Int64 × (Nat → Int64)) => ∃ g, v = (oA u 26 g, lt, sj) ∧ r = lifF (fun v => sdb (u.2 6) (u.2 7) (chV (u.2 1) (u.2 2) (u.2 3) (nI v)) ii) nv) (fun v t => PP G (mw G h v.1 v.2.1 v.2.2) t.heap) A) ([.ref (h 0), .int (nI ii)] : List Value).toArray s 0 0 A) (F0 m 4 ls []) := by
    intro n4m
    induction n4m with
    | zero => intro k x g hk hx9 hmu H locs ls hP hD hS hl; exact absurd hmu (Nat.not_lt_zero _)
    | succ n4m ih4 =>
      intro k x g hk hx9 hmu H locs ls hP hD hS hl
      refine lv_iload_n hx hb dX5_lifeOf_4 rfl (lv_at hl 3 rfl) ?_
      refine lv_aload_n hx hb dX5_lifeOf_5 rfl (lv_at hl 0 rfl) ?_
      refine va_get (D := gD G) (ci := 5) (v := .int (u.1 0)) (C := RX5) (T := TX5) (N := 38) hx hb hts hiX5 hown hK hP 0 rfl rfl 0 (by decide) k91 (fun _ h9 => h9) rfl dX5_lifeOf_6 ?_
      refine topE hnv ?_
      refine lv_icmp_ge (tgt := 41) hx hb dX5_lifeOf_9 (by decide) (fun c9 => ?_) (fun c9 => ?_)
      · skip
        have n9 : nv ≤ k := (nI_leI (a := nv) (b := k) (by omega) (by omega)).mp c9
        refine lv_iload_n hx hb dX5_lifeOf_41 rfl (lv_at hl 2 rfl) ?_
        exact W.iret (v := x) hx hb hr (fun t ht hW => ⟨⟨x, (oA u 26 g, lt, sj), rfl, ⟨_, rfl, by rw [hx9, show k = nv by omega]⟩, show PP G (mw G h (oA u 26 g) lt sj) t.heap by rw [ht]; exact hP⟩, hS.F ht⟩) hS.2.2 dX5_lifeOf_42
      · skip
        have n9 : ¬ (nv ≤ k) := fun q9 => c9 ((nI_leI (a := nv) (b := k) (by omega) (by omega)).mpr q9)
        refine lv_iload_n hx hb dX5_lifeOf_12 rfl (lv_at hl 2 rfl) ?_
        refine lv_aload_n hx hb dX5_lifeOf_13 rfl (lv_at hl 0 rfl) ?_
        refine lv_iload_n hx hb dX5_lifeOf_14 rfl (lv_at hl 1 rfl) ?_
        refine lv_aload_n hx hb dX5_lifeOf_15 rfl (lv_at hl 0 rfl) ?_
        refine lv_iload_n hx hb dX5_lifeOf_16 rfl (lv_at hl 3 rfl) ?_
        refine cXi (As := [.int (nI k)]) (rest := [.int (nI ii), .ref (h 0), .int x]) (S := oS × Int64 × (Nat → Int64)) (wa := mw G h (oA u 26 g) lt sj) (w1 := fun v => mw G h v.1 v.2.1 v.2.2) ⟨hx, hb, hml, hown, hts⟩ (mt_X5_changesOf l G h _ u lt sj g k (by first | assumption | omega) (hparV.le (by omega))) (cwV 1 hts gX5_lifeOf_X5_changesOf rfl rfl rfl ⟨rfl, hd_X5_changesOf⟩ ⟨Nat.le_of_ble_eq_true rfl, Nat.le_of_ble_eq_true rfl⟩) hK hN hP hD hS hA (fun _ => rfl) 0 5 rfl rfl rfl hl.1 rfl (Nat.le_of_ble_eq_true rfl) ⟨Nat.zero_le _, Nat.zero_le _⟩ dX5_lifeOf_17 (fun r17 u17 H locs hw17 hP hD hS => ?_)
        obtain ⟨g17, rfl, rfl⟩ := hw17
        have hP : PP G (mw G h (oA u 26 g17) lt sj) H := hP
        have hD : va_D A (mw G h (oA u 26 g17) lt sj) := hD
        refine cRi (w := mw G h (oA u 26 g17) lt sj) (As := [.int (nI ii), .int (chV (u.2 1) (u.2 2) (u.2 3) (nI k))]) (rest := [.int x]) ⟨hx, hb, hml, hown, hts⟩ (mt_X5_stands l G h (oA u 26 g17) lt sj ii (chV (u.2 1) (u.2 2) (u.2 3) (nI k)) (by first | assumption | omega)) (cwV 2 hts gX5_lifeOf_X5_stands rfl rfl rfl ⟨rfl, hd_X5_stands⟩ ⟨Nat.le_of_ble_eq_true rfl, Nat.le_of_ble_eq_true rfl⟩) hK hN hP 0 5 rfl rfl rfl hl.1 rfl (Nat.le_of_ble_eq_true rfl) ⟨Nat.zero_le _, Nat.zero_le _⟩ dX5_lifeOf_20 (fun r20 hw20 => ?_)
        rcases hw20 with ⟨rfl, hy20⟩ | ⟨rfl, hn20⟩
        · skip
          refine lv_if_eq (tgt := 32) hx hb dX5_lifeOf_23 (by decide) (fun c9 => absurd c9 (by decide)) (fun _ => ?_)
          refine lv_iconst (v := (1 : Int32)) hx hb dX5_lifeOf_26 (by decide) ?_
          refine lv_iload_n hx hb dX5_lifeOf_27 rfl (lv_at hl 3 rfl) ?_
          refine lv_ishl hx hb dX5_lifeOf_28 ?_
          refine lv_goto (tgt := 33) hx hb dX5_lifeOf_29 (by decide) ?_
          refine lv_ior hx hb dX5_lifeOf_33 ?_
          refine lv_istore_n (lv' := [(2, .int (x ||| ((1 : Int32) <<< ((nI k) &&& 31)))), (0, .ref (h 0)), (1, .int (nI ii)), (3, .int (nI k))]) hx hb dX5_lifeOf_34 rfl hl (by decide) rfl (fun ls hl => ?_)
          refine lv_iinc (v := nI (k + 1)) (lv' := [(3, .int (nI (k + 1))), (2, .int (x ||| ((1 : Int32) <<< ((nI k) &&& 31)))), (0, .ref (h 0)), (1, .int (nI ii))]) hx hb dX5_lifeOf_35 hl (k := 3) rfl (nI_1 k) (by decide) rfl (fun ls hl => ?_)
          refine lv_goto (tgt := 4) hx hb dX5_lifeOf_38 (by decide) ?_
          exact ih4 (k + 1) (x ||| ((1 : Int32) <<< ((nI k) &&& 31))) g17 (by first | assumption | omega) (by first | (rw [lifF, if_pos (by assumption), ← hx9]) | (rw [lifF, if_neg (fun q9 => absurd (q9.symm.trans hn20) (by decide)), ← hx9])) (by omega) _ _ ls hP hD hS (lv_sub hl [2, 3, 1, 0] rfl)
        · skip
          refine lv_if_eq (tgt := 32) hx hb dX5_lifeOf_23 (by decide) (fun _ => ?_) (fun c9 => absurd (by decide) c9)
          refine lv_iconst (v := (0 : Int32)) hx hb dX5_lifeOf_32 (by decide) ?_
          refine lv_ior hx hb dX5_lifeOf_33 ?_
          refine lv_istore_n (lv' := [(2, .int (x ||| (0 : Int32))), (0, .ref (h 0)), (1, .int (nI ii)), (3, .int (nI k))]) hx hb dX5_lifeOf_34 rfl hl (by decide) rfl (fun ls hl => ?_)
          refine lv_iinc (v := nI (k + 1)) (lv' := [(3, .int (nI (k + 1))), (2, .int (x ||| (0 : Int32))), (0, .ref (h 0)), (1, .int (nI ii))]) hx hb dX5_lifeOf_35 hl (k := 3) rfl (nI_1 k) (by decide) rfl (fun ls hl => ?_)
          refine lv_goto (tgt := 4) hx hb dX5_lifeOf_38 (by decide) ?_
          exact ih4 (k + 1) (x ||| (0 : Int32)) g17 (by first | assumption | omega) (by first | (rw [lifF, if_pos (by assumption), ← hx9]) | (rw [lifF, if_neg (fun q9 => absurd (q9.symm.trans hn20) (by decide)), ← hx9])) (by omega) _ _ ls hP hD hS (lv_sub hl [2, 3, 1, 0] rfl)
  exact LP4 (nv - 0 + 1) 0 (nI 0) g0 (by first | assumption | omega) (rfl) (Nat.lt_succ_self _) _ _ ls hP hD hS (lv_sub hl [2, 3, 1, 0] rfl)
set_option maxHeartbeats 1000000 in
set_option maxRecDepth 100000 in
theorem mt_X5_eldersOfF (l : Launch) (G : gG) (h : Nat → Nat) (u : oS) (lt : Int64) (sj : Nat → Int64) (j : Nat) (hj24 : j ≤ 24) (hpar : parOK (u.2 1) (j + 1)) : Met l yX5_eldersOf wsX5_eldersOf ({ frames := 0, cells := 0, slots := 0, locals := 0 }) (preR G (mw G h u lt sj) [.ref (h 0), .int (nI j)]) (vp_Si (fun r : Int32 => r = eldV (u.2 1) (nI j))) 0 0 (fun _ => False) := by
  refine Met.ofW (cc := cX5_eldersOf) (maxL := 4) (ret := (some .int)) (by decide) rfl ?_
  intro p e s m args below meth c s₁ B hml hv
  obtain ⟨ha, hP, hK, hN⟩ := hv
  subst ha
  have hx := B.exec
  have hb := B.bytes
  have hr := B.returns
  have hts := atoms_spec (ws := wsX5_eldersOf) B.pre
  have hown : s.vm.findClass RX5 = some m.cls := findClass_of_methodNamed B.named
  have hlocks := B.notSynchronized
  have hiX5 : ∀ w ∈ wsX50, w ∈ wsX5_eldersOf := fun w h9 => List.mem_cons_of_mem _ (List.mem_append_right _ (h9))
  have k7 := hts (.fieldLink RX5 7 "WovenHistoryModel" "parent" "[I") (List.mem_of_getElem? (i := 1) rfl)
  have hl := lv_entry ([.ref (h 0), .int (nI j)]) (n := 4) (Nat.le_of_ble_eq_true rfl)
  rw [lg_entry_eq]
  generalize (lg_sl ([.ref (h 0), .int (nI j)]) ++ List.replicate (4 - (lg_sl ([.ref (h 0), .int (nI j)])).length) Slot.unset).toArray = ls at hl ⊢
  have hl : lv_has ls 4 [(0, .ref (h 0)), (1, .int (nI j))] := hl
  refine lv_iconst (v := nI 0) hx hb dX5_eldersOf_0 (by decide) ?_
  refine lv_istore_n (lv' := [(2, .int (nI 0)), (0, .ref (h 0)), (1, .int (nI j))]) hx hb dX5_eldersOf_1 rfl hl (by decide) rfl (fun ls hl => ?_)
  refine lv_iload_n hx hb dX5_eldersOf_2 rfl (lv_at hl 2 rfl) ?_
  refine lv_istore_n (lv' := [(3, .int (nI j)), (2, .int (nI 0)), (0, .ref (h 0)), (1, .int (nI j))]) hx hb dX5_eldersOf_3 rfl hl (by decide) rfl (fun ls hl => ?_)
  have LP4 : ∀ (n4m : Nat), ∀ (y : Int32) (x : Int32) (bb : Nat) (hy : y = -1 ∨ ∃ i, y = nI i ∧ i < bb) (hbb : bb ≤ j + 1) (hxy : x ||| eldV (u.2 1) y = eldV (u.2 1) (nI j)), (bb < n4m) → ∀ (ls : Array Slot), lv_has ls 4 [(0, .ref (h 0)), (2, .int x), (3, .int y)] → W p l e (headSpec wsX5_eldersOf ({ frames := 0, cells := 0, slots := 0, locals := 0 })).room s m ([.ref (h 0), .int (nI j)] : List Value).toArray below meth c s.heap [] 0 0 (MQ below (vp_Si (fun r : Int32 => r = eldV (u.2 1) (nI j))) ([.ref (h 0), .int (nI j)] : List Value).toArray s 0 0 (fun _ => False)) (F0 m 4 ls []) := by
    intro n4m
    induction n4m with
    | zero => intro y x bb hy hbb hxy hmu ls hl; exact absurd hmu (Nat.not_lt_zero _)
    | succ n4m ih4 =>
      intro y x bb hy hbb hxy hmu ls hl
      refine lv_iload_n hx hb dX5_eldersOf_4 rfl (lv_at hl 2 rfl) ?_
      refine lv_if_lt (tgt := 24) hx hb dX5_eldersOf_5 (by decide) (fun c5 => ?_) (fun c5 => ?_)
      · skip
        have ey : y = -1 := hy.resolve_right (fun ⟨i, e, _⟩ => absurd c5 (by rw [e]; exact nI_pos (by omega)))
        refine lv_iload_n hx hb dX5_eldersOf_24 rfl (lv_at hl 1 rfl) ?_
        exact W.iret (v := x) hx hb hr (fun t ht hW => ⟨x, rfl, by rw [← hxy, ey, eldV_m1, Int32.or_zero], ht⟩) (fun _ h9 => by cases h9) dX5_eldersOf_25
      · skip
        obtain ⟨i5, rfl, hi5⟩ : ∃ i, y = nI i ∧ i < bb := hy.resolve_left (fun e => c5 (by rw [e]; decide))
        refine lv_iload_n hx hb dX5_eldersOf_8 rfl (lv_at hl 1 rfl) ?_
        refine lv_iconst (v := (1 : Int32)) hx hb dX5_eldersOf_9 (by decide) ?_
        refine lv_iload_n hx hb dX5_eldersOf_10 rfl (lv_at hl 2 rfl) ?_
        refine lv_ishl hx hb dX5_eldersOf_11 ?_
        refine lv_ior hx hb dX5_eldersOf_12 ?_
        refine lv_istore_n (lv' := [(2, .int (x ||| ((1 : Int32) <<< ((nI i5) &&& 31)))), (0, .ref (h 0)), (3, .int (nI i5))]) hx hb dX5_eldersOf_13 rfl hl (by decide) rfl (fun ls hl => ?_)
        refine lv_aload_n hx hb dX5_eldersOf_14 rfl (lv_at hl 1 rfl) ?_
        refine va_get (D := gD G) (ci := 5) (v := .ref (h 1)) (C := RX5) (T := TX5) (N := 38) hx hb hts hiX5 hown hK hP 0 rfl rfl 1 (by decide) k7 (fun _ h9 => h9) rfl dX5_eldersOf_15 ?_
        refine lv_iload_n hx hb dX5_eldersOf_18 rfl (lv_at hl 2 rfl) ?_
        refine ialdN (f := u.2 1) (n := 25) (k := i5) hx hb hK hP 1 rfl rfl (by omega) dX5_eldersOf_19 ?_
        refine lv_istore_n (lv' := [(3, .int ((u.2 1) i5)), (2, .int (x ||| ((1 : Int32) <<< ((nI i5) &&& 31)))), (0, .ref (h 0))]) hx hb dX5_eldersOf_20 rfl hl (by decide) rfl (fun ls hl => ?_)
        refine lv_goto (tgt := 4) hx hb dX5_eldersOf_21 (by decide) ?_
        exact ih4 ((u.2 1) i5) (x ||| ((1 : Int32) <<< ((nI i5) &&& 31))) i5 ((hpar i5 (by omega)).imp id (fun ⟨t, ht, e⟩ => ⟨t, e, ht⟩)) (by first | assumption | omega) (by rw [← hxy, eldV_s (by omega) (hpar.le (by omega)), Int32.or_assoc]) (by omega) ls (lv_sub hl [2, 1, 0] rfl)
  exact LP4 ((j + 1) + 1) (nI j) (nI 0) (j + 1) (Or.inr ⟨j, rfl, by omega⟩) (by first | assumption | omega) (Int32.zero_or) (Nat.lt_succ_self _) ls (lv_sub hl [2, 1, 0] rfl)
set_option maxHeartbeats 1000000 in
set_option maxRecDepth 100000 in
theorem mt_X5_partOfF (l : Launch) (G : gG) (h : Nat → Nat) (u : oS) (lt : Int64) (sj : Nat → Int64) (nl : Nat) (a : Int32) (b : Int32) (hnl : u.1 4 = nI nl) (hnl120 : nl ≤ 120) : Met l yX5_partOf wsX5_partOf ({ frames := 3, cells := 0, slots := 0, locals := 67 }) (preR G (mw G h u lt sj) [.ref (h 0), .int a, .int b]) (vp_Si (fun r : Int32 => r = partP (sdb (u.2 6) (u.2 7) a) (sdb (u.2 6) (u.2 7) b) nl)) 0 0 (fun _ => False) := by
  refine Met.ofW (cc := cX5_partOf) (maxL := 6) (ret := (some .int)) (by decide) rfl ?_
  intro p e s m args below meth c s₁ B hml hv
  obtain ⟨ha, hP, hK, hN⟩ := hv
  subst ha
  have hx := B.exec
  have hb := B.bytes
  have hr := B.returns
  have hts := atoms_spec (ws := wsX5_partOf) B.pre
  have hown : s.vm.findClass RX5 = some m.cls := findClass_of_methodNamed B.named
  have hlocks := B.notSynchronized
  have hl := lv_entry ([.ref (h 0), .int a, .int b]) (n := 6) (Nat.le_of_ble_eq_true rfl)
  rw [lg_entry_eq]
  generalize (lg_sl ([.ref (h 0), .int a, .int b]) ++ List.replicate (6 - (lg_sl ([.ref (h 0), .int a, .int b])).length) Slot.unset).toArray = ls at hl ⊢
  have hl : lv_has ls 6 [(0, .ref (h 0)), (1, .int a), (2, .int b)] := hl
  refine lv_iconst (v := nI 0) hx hb dX5_partOf_0 (by decide) ?_
  refine lv_istore_n (lv' := [(3, .int (nI 0)), (0, .ref (h 0)), (1, .int a), (2, .int b)]) hx hb dX5_partOf_1 rfl hl (by decide) rfl (fun ls hl => ?_)
  refine lv_aload_n hx hb dX5_partOf_2 rfl (lv_at hl 1 rfl) ?_
  refine lv_iload_n hx hb dX5_partOf_3 rfl (lv_at hl 2 rfl) ?_
  refine lv_iconst (v := nI 0) hx hb dX5_partOf_4 (by decide) ?_
  refine cRi (w := mw G h u lt sj) (As := [.int a, .int (nI 0)]) (rest := []) ⟨hx, hb, hml, hown, hts⟩ (mt_X5_lineAt l G h u lt sj nl a 0 (hnl) (by first | assumption | omega) (by omega)) (cwV 2 hts gX5_partOf_X5_lineAt rfl rfl rfl ⟨rfl, hd_X5_lineAt⟩ ⟨Nat.le_of_ble_eq_true rfl, Nat.le_of_ble_eq_true rfl⟩) hK hN hP 0 5 rfl rfl rfl hl.1 rfl (Nat.le_of_ble_eq_true rfl) ⟨Nat.zero_le _, Nat.zero_le _⟩ dX5_partOf_5 (fun r5 hw5 => ?_)
  rcases hw5 with ⟨i5, hi5, hp5, hq5, rfl⟩ | ⟨hq5, rfl⟩
  · skip
    refine lv_istore (lv' := [(4, .int (nI (i5))), (3, .int (nI 0)), (0, .ref (h 0)), (1, .int a), (2, .int b)]) hx hb dX5_partOf_8 hl (by decide) rfl (fun ls hl => ?_)
    refine lv_aload_n hx hb dX5_partOf_10 rfl (lv_at hl 2 rfl) ?_
    refine lv_iload_n hx hb dX5_partOf_11 rfl (lv_at hl 4 rfl) ?_
    refine lv_iconst (v := nI 0) hx hb dX5_partOf_12 (by decide) ?_
    refine cRi (w := mw G h u lt sj) (As := [.int b, .int (nI 0)]) (rest := []) ⟨hx, hb, hml, hown, hts⟩ (mt_X5_lineAt l G h u lt sj nl b 0 (hnl) (by first | assumption | omega) (by omega)) (cwV 2 hts gX5_partOf_X5_lineAt rfl rfl rfl ⟨rfl, hd_X5_lineAt⟩ ⟨Nat.le_of_ble_eq_true rfl, Nat.le_of_ble_eq_true rfl⟩) hK hN hP 0 5 rfl rfl rfl hl.1 rfl (Nat.le_of_ble_eq_true rfl) ⟨Nat.zero_le _, Nat.zero_le _⟩ dX5_partOf_13 (fun r13 hw13 => ?_)
    rcases hw13 with ⟨i13, hi13, hp13, hq13, rfl⟩ | ⟨hq13, rfl⟩
    · skip
      refine lv_istore (lv' := [(5, .int (nI (i13))), (4, .int (nI (i5))), (3, .int (nI 0)), (0, .ref (h 0)), (1, .int a), (2, .int b)]) hx hb dX5_partOf_16 hl (by decide) rfl (fun ls hl => ?_)
      have LP18 : ∀ (n18m : Nat), ∀ (pp : Nat) (x : Int32) (y : Int32) (hxa : x = fnI (sdb (u.2 6) (u.2 7) a) nl pp) (hyb : y = fnI (sdb (u.2 6) (u.2 7) b) nl pp) (hI9 : ∀ q, q < pp → fnI (sdb (u.2 6) (u.2 7) a) nl q = fnI (sdb (u.2 6) (u.2 7) b) nl q) (hpp : pp ≤ nl), (nl + 1 - pp < n18m) → ∀ (ls : Array Slot), lv_has ls 6 [(0, .ref (h 0)), (1, .int a), (2, .int b), (3, .int (nI pp)), (4, .int x), (5, .int y)] → W p l e (headSpec wsX5_partOf ({ frames := 3, cells := 0, slots := 0, locals := 67 })).room s m ([.ref (h 0), .int a, .int b] : List Value).toArray below meth c s.heap [] 0 0 (MQ below (vp_Si (fun r : Int32 => r = partP (sdb (u.2 6) (u.2 7) a) (sdb (u.2 6) (u.2 7) b) nl)) ([.ref (h 0), .int a, .int b] : List Value).toArray s 0 0 (fun _ => False)) (F0 m 18 ls []) := by
        intro n18m
        induction n18m with
        | zero => intro pp x y hxa hyb hI9 hpp hmu ls hl; exact absurd hmu (Nat.not_lt_zero _)
        | succ n18m ih18 =>
          intro pp x y hxa hyb hI9 hpp hmu ls hl
          refine lv_iload hx hb dX5_partOf_18 (lv_at hl 4 rfl) ?_
          refine lv_iload hx hb dX5_partOf_20 (lv_at hl 5 rfl) ?_
          refine lv_icmp_ne (tgt := 52) hx hb dX5_partOf_22 (by decide) (fun c22 => ?_) (fun c22 => ?_)
          · skip
            refine lv_iload hx hb dX5_partOf_52 (lv_at hl 4 rfl) ?_
            refine lv_iload hx hb dX5_partOf_54 (lv_at hl 5 rfl) ?_
            refine lv_icmp_ne (tgt := 63) hx hb dX5_partOf_56 (by decide) (fun c56 => ?_) (fun c56 => ?_)
            · skip
              refine lv_iload_n hx hb dX5_partOf_63 rfl (lv_at hl 3 rfl) ?_
              exact W.iret (v := nI pp) hx hb hr (fun t ht hW => ⟨nI pp, rfl, by first | exact (part_ne (by omega) hI9 (by rw [← hxa, ← hyb]; exact c56)).symm | exact absurd c22 c56, ht⟩) (fun _ h9 => by cases h9) dX5_partOf_64
            · skip
              refine lv_iconst (v := (-1 : Int32)) hx hb dX5_partOf_59 (by decide) ?_
              refine lv_goto (tgt := 64) hx hb dX5_partOf_60 (by decide) ?_
              exact W.iret (v := (-1 : Int32)) hx hb hr (fun t ht hW => ⟨(-1 : Int32), rfl, by first | exact (part_eq (by omega) hI9 (fnI_neg (by omega) (by rw [← hxa]; exact c27)) (by rw [← hyb, ← c22, hxa]; exact fnI_neg (by omega) (by rw [← hxa]; exact c27))).symm | exact absurd c56 c22, ht⟩) (fun _ h9 => by cases h9) dX5_partOf_64
          · skip
            refine lv_iload hx hb dX5_partOf_25 (lv_at hl 4 rfl) ?_
            refine lv_if_lt (tgt := 52) hx hb dX5_partOf_27 (by decide) (fun c27 => ?_) (fun c27 => ?_)
            · skip
              refine lv_iload hx hb dX5_partOf_52 (lv_at hl 4 rfl) ?_
              refine lv_iload hx hb dX5_partOf_54 (lv_at hl 5 rfl) ?_
              refine lv_icmp_ne (tgt := 63) hx hb dX5_partOf_56 (by decide) (fun c56 => ?_) (fun c56 => ?_)
              · skip
                refine lv_iload_n hx hb dX5_partOf_63 rfl (lv_at hl 3 rfl) ?_
                exact W.iret (v := nI pp) hx hb hr (fun t ht hW => ⟨nI pp, rfl, by first | exact (part_ne (by omega) hI9 (by rw [← hxa, ← hyb]; exact c56)).symm | exact absurd c22 c56, ht⟩) (fun _ h9 => by cases h9) dX5_partOf_64
              · skip
                refine lv_iconst (v := (-1 : Int32)) hx hb dX5_partOf_59 (by decide) ?_
                refine lv_goto (tgt := 64) hx hb dX5_partOf_60 (by decide) ?_
                exact W.iret (v := (-1 : Int32)) hx hb hr (fun t ht hW => ⟨(-1 : Int32), rfl, by first | exact (part_eq (by omega) hI9 (fnI_neg (by omega) (by rw [← hxa]; exact c27)) (by rw [← hyb, ← c22, hxa]; exact fnI_neg (by omega) (by rw [← hxa]; exact c27))).symm | exact absurd c56 c22, ht⟩) (fun _ h9 => by cases h9) dX5_partOf_64
            · skip
              have hp27 : pp < nl := by rcases Nat.lt_or_ge pp nl with q9 | q9; exact q9; exact absurd (show x < 0 from by rw [hxa, fnI_miss (Nat.le_trans (cnt_le _ _) q9)]; decide) c27
              refine lv_iinc (v := nI (pp + 1)) (lv' := [(3, .int (nI (pp + 1))), (0, .ref (h 0)), (1, .int a), (2, .int b), (4, .int x), (5, .int y)]) hx hb dX5_partOf_30 hl (k := 3) rfl (nI_1 pp) (by decide) rfl (fun ls hl => ?_)
              refine lv_aload_n hx hb dX5_partOf_33 rfl (lv_at hl 1 rfl) ?_
              refine lv_iload_n hx hb dX5_partOf_34 rfl (lv_at hl 2 rfl) ?_
              refine lv_iload_n hx hb dX5_partOf_35 rfl (lv_at hl 0 rfl) ?_
              refine cRi (w := mw G h u lt sj) (As := [.int a, .int (nI (pp + 1))]) (rest := []) ⟨hx, hb, hml, hown, hts⟩ (mt_X5_lineAt l G h u lt sj nl a (pp + 1) (hnl) (by first | assumption | omega) (by first | assumption | omega)) (cwV 2 hts gX5_partOf_X5_lineAt rfl rfl rfl ⟨rfl, hd_X5_lineAt⟩ ⟨Nat.le_of_ble_eq_true rfl, Nat.le_of_ble_eq_true rfl⟩) hK hN hP 0 5 rfl rfl rfl hl.1 rfl (Nat.le_of_ble_eq_true rfl) ⟨Nat.zero_le _, Nat.zero_le _⟩ dX5_partOf_36 (fun r36 hw36 => ?_)
              rcases hw36 with ⟨i36, hi36, hp36, hq36, rfl⟩ | ⟨hq36, rfl⟩
              · skip
                refine lv_istore (lv' := [(4, .int (nI (i36))), (3, .int (nI (pp + 1))), (0, .ref (h 0)), (1, .int a), (2, .int b), (5, .int y)]) hx hb dX5_partOf_39 hl (by decide) rfl (fun ls hl => ?_)
                refine lv_aload_n hx hb dX5_partOf_41 rfl (lv_at hl 2 rfl) ?_
                refine lv_iload_n hx hb dX5_partOf_42 rfl (lv_at hl 4 rfl) ?_
                refine lv_iload_n hx hb dX5_partOf_43 rfl (lv_at hl 1 rfl) ?_
                refine cRi (w := mw G h u lt sj) (As := [.int b, .int (nI (pp + 1))]) (rest := []) ⟨hx, hb, hml, hown, hts⟩ (mt_X5_lineAt l G h u lt sj nl b (pp + 1) (hnl) (by first | assumption | omega) (by first | assumption | omega)) (cwV 2 hts gX5_partOf_X5_lineAt rfl rfl rfl ⟨rfl, hd_X5_lineAt⟩ ⟨Nat.le_of_ble_eq_true rfl, Nat.le_of_ble_eq_true rfl⟩) hK hN hP 0 5 rfl rfl rfl hl.1 rfl (Nat.le_of_ble_eq_true rfl) ⟨Nat.zero_le _, Nat.zero_le _⟩ dX5_partOf_44 (fun r44 hw44 => ?_)
                rcases hw44 with ⟨i44, hi44, hp44, hq44, rfl⟩ | ⟨hq44, rfl⟩
                · skip
                  refine lv_istore (lv' := [(5, .int (nI (i44))), (4, .int (nI (i36))), (3, .int (nI (pp + 1))), (0, .ref (h 0)), (1, .int a), (2, .int b)]) hx hb dX5_partOf_47 hl (by decide) rfl (fun ls hl => ?_)
                  refine lv_goto (tgt := 18) hx hb dX5_partOf_49 (by decide) ?_
                  exact ih18 (pp + 1) (nI (i36)) (nI (i44)) (by first | exact (fnI_hit (by assumption) (by assumption) (by assumption)).symm | exact (fnI_miss (by assumption)).symm) (by first | exact (fnI_hit (by assumption) (by assumption) (by assumption)).symm | exact (fnI_miss (by assumption)).symm) (fun q hq => by by_cases e9 : q = pp; (rw [e9, ← hxa, ← hyb]; assumption); exact hI9 q (by omega)) (by first | assumption | omega) (by omega) ls (lv_sub hl [3, 4, 5, 2, 1, 0] rfl)
                · skip
                  refine lv_istore (lv' := [(5, .int (-1 : Int32)), (4, .int (nI (i36))), (3, .int (nI (pp + 1))), (0, .ref (h 0)), (1, .int a), (2, .int b)]) hx hb dX5_partOf_47 hl (by decide) rfl (fun ls hl => ?_)
                  refine lv_goto (tgt := 18) hx hb dX5_partOf_49 (by decide) ?_
                  exact ih18 (pp + 1) (nI (i36)) (-1 : Int32) (by first | exact (fnI_hit (by assumption) (by assumption) (by assumption)).symm | exact (fnI_miss (by assumption)).symm) (by first | exact (fnI_hit (by assumption) (by assumption) (by assumption)).symm | exact (fnI_miss (by assumption)).symm) (fun q hq => by by_cases e9 : q = pp; (rw [e9, ← hxa, ← hyb]; assumption); exact hI9 q (by omega)) (by first | assumption | omega) (by omega) ls (lv_sub hl [3, 4, 5, 2, 1, 0] rfl)
              · skip
                refine lv_istore (lv' := [(4, .int (-1 : Int32)), (3, .int (nI (pp + 1))), (0, .ref (h 0)), (1, .int a), (2, .int b), (5, .int y)]) hx hb dX5_partOf_39 hl (by decide) rfl (fun ls hl => ?_)
                refine lv_aload_n hx hb dX5_partOf_41 rfl (lv_at hl 2 rfl) ?_
                refine lv_iload_n hx hb dX5_partOf_42 rfl (lv_at hl 4 rfl) ?_
                refine lv_iload_n hx hb dX5_partOf_43 rfl (lv_at hl 1 rfl) ?_
                refine cRi (w := mw G h u lt sj) (As := [.int b, .int (nI (pp + 1))]) (rest := []) ⟨hx, hb, hml, hown, hts⟩ (mt_X5_lineAt l G h u lt sj nl b (pp + 1) (hnl) (by first | assumption | omega) (by first | assumption | omega)) (cwV 2 hts gX5_partOf_X5_lineAt rfl rfl rfl ⟨rfl, hd_X5_lineAt⟩ ⟨Nat.le_of_ble_eq_true rfl, Nat.le_of_ble_eq_true rfl⟩) hK hN hP 0 5 rfl rfl rfl hl.1 rfl (Nat.le_of_ble_eq_true rfl) ⟨Nat.zero_le _, Nat.zero_le _⟩ dX5_partOf_44 (fun r44 hw44 => ?_)
                rcases hw44 with ⟨i44, hi44, hp44, hq44, rfl⟩ | ⟨hq44, rfl⟩
                · skip
                  refine lv_istore (lv' := [(5, .int (nI (i44))), (4, .int (-1 : Int32)), (3, .int (nI (pp + 1))), (0, .ref (h 0)), (1, .int a), (2, .int b)]) hx hb dX5_partOf_47 hl (by decide) rfl (fun ls hl => ?_)
                  refine lv_goto (tgt := 18) hx hb dX5_partOf_49 (by decide) ?_
                  exact ih18 (pp + 1) (-1 : Int32) (nI (i44)) (by first | exact (fnI_hit (by assumption) (by assumption) (by assumption)).symm | exact (fnI_miss (by assumption)).symm) (by first | exact (fnI_hit (by assumption) (by assumption) (by assumption)).symm | exact (fnI_miss (by assumption)).symm) (fun q hq => by by_cases e9 : q = pp; (rw [e9, ← hxa, ← hyb]; assumption); exact hI9 q (by omega)) (by first | assumption | omega) (by omega) ls (lv_sub hl [3, 4, 5, 2, 1, 0] rfl)
                · skip
                  refine lv_istore (lv' := [(5, .int (-1 : Int32)), (4, .int (-1 : Int32)), (3, .int (nI (pp + 1))), (0, .ref (h 0)), (1, .int a), (2, .int b)]) hx hb dX5_partOf_47 hl (by decide) rfl (fun ls hl => ?_)
                  refine lv_goto (tgt := 18) hx hb dX5_partOf_49 (by decide) ?_
                  exact ih18 (pp + 1) (-1 : Int32) (-1 : Int32) (by first | exact (fnI_hit (by assumption) (by assumption) (by assumption)).symm | exact (fnI_miss (by assumption)).symm) (by first | exact (fnI_hit (by assumption) (by assumption) (by assumption)).symm | exact (fnI_miss (by assumption)).symm) (fun q hq => by by_cases e9 : q = pp; (rw [e9, ← hxa, ← hyb]; assumption); exact hI9 q (by omega)) (by first | assumption | omega) (by omega) ls (lv_sub hl [3, 4, 5, 2, 1, 0] rfl)
      exact LP18 (nl + 1 - 0 + 1) 0 (nI (i5)) (nI (i13)) (by first | exact (fnI_hit (by assumption) (by assumption) (by assumption)).symm | exact (fnI_miss (by assumption)).symm) (by first | exact (fnI_hit (by assumption) (by assumption) (by assumption)).symm | exact (fnI_miss (by assumption)).symm) (fun q hq => absurd hq (Nat.not_lt_zero q)) (by first | assumption | omega) (Nat.lt_succ_self _) ls (lv_sub hl [3, 4, 5, 2, 1, 0] rfl)
    · skip
      refine lv_istore (lv' := [(5, .int (-1 : Int32)), (4, .int (nI (i5))), (3, .int (nI 0)), (0, .ref (h 0)), (1, .int a), (2, .int b)]) hx hb dX5_partOf_16 hl (by decide) rfl (fun ls hl => ?_)
      have LP18 : ∀ (n18m : Nat), ∀ (pp : Nat) (x : Int32) (y : Int32) (hxa : x = fnI (sdb (u.2 6) (u.2 7) a) nl pp) (hyb : y = fnI (sdb (u.2 6) (u.2 7) b) nl pp) (hI9 : ∀ q, q < pp → fnI (sdb (u.2 6) (u.2 7) a) nl q = fnI (sdb (u.2 6) (u.2 7) b) nl q) (hpp : pp ≤ nl), (nl + 1 - pp < n18m) → ∀ (ls : Array Slot), lv_has ls 6 [(0, .ref (h 0)), (1, .int a), (2, .int b), (3, .int (nI pp)), (4, .int x), (5, .int y)] → W p l e (headSpec wsX5_partOf ({ frames := 3, cells := 0, slots := 0, locals := 67 })).room s m ([.ref (h 0), .int a, .int b] : List Value).toArray below meth c s.heap [] 0 0 (MQ below (vp_Si (fun r : Int32 => r = partP (sdb (u.2 6) (u.2 7) a) (sdb (u.2 6) (u.2 7) b) nl)) ([.ref (h 0), .int a, .int b] : List Value).toArray s 0 0 (fun _ => False)) (F0 m 18 ls []) := by
        intro n18m
        induction n18m with
        | zero => intro pp x y hxa hyb hI9 hpp hmu ls hl; exact absurd hmu (Nat.not_lt_zero _)
        | succ n18m ih18 =>
          intro pp x y hxa hyb hI9 hpp hmu ls hl
          refine lv_iload hx hb dX5_partOf_18 (lv_at hl 4 rfl) ?_
          refine lv_iload hx hb dX5_partOf_20 (lv_at hl 5 rfl) ?_
          refine lv_icmp_ne (tgt := 52) hx hb dX5_partOf_22 (by decide) (fun c22 => ?_) (fun c22 => ?_)
          · skip
            refine lv_iload hx hb dX5_partOf_52 (lv_at hl 4 rfl) ?_
            refine lv_iload hx hb dX5_partOf_54 (lv_at hl 5 rfl) ?_
            refine lv_icmp_ne (tgt := 63) hx hb dX5_partOf_56 (by decide) (fun c56 => ?_) (fun c56 => ?_)
            · skip
              refine lv_iload_n hx hb dX5_partOf_63 rfl (lv_at hl 3 rfl) ?_
              exact W.iret (v := nI pp) hx hb hr (fun t ht hW => ⟨nI pp, rfl, by first | exact (part_ne (by omega) hI9 (by rw [← hxa, ← hyb]; exact c56)).symm | exact absurd c22 c56, ht⟩) (fun _ h9 => by cases h9) dX5_partOf_64
            · skip
              refine lv_iconst (v := (-1 : Int32)) hx hb dX5_partOf_59 (by decide) ?_
              refine lv_goto (tgt := 64) hx hb dX5_partOf_60 (by decide) ?_
              exact W.iret (v := (-1 : Int32)) hx hb hr (fun t ht hW => ⟨(-1 : Int32), rfl, by first | exact (part_eq (by omega) hI9 (fnI_neg (by omega) (by rw [← hxa]; exact c27)) (by rw [← hyb, ← c22, hxa]; exact fnI_neg (by omega) (by rw [← hxa]; exact c27))).symm | exact absurd c56 c22, ht⟩) (fun _ h9 => by cases h9) dX5_partOf_64
          · skip
            refine lv_iload hx hb dX5_partOf_25 (lv_at hl 4 rfl) ?_
            refine lv_if_lt (tgt := 52) hx hb dX5_partOf_27 (by decide) (fun c27 => ?_) (fun c27 => ?_)
            · skip
              refine lv_iload hx hb dX5_partOf_52 (lv_at hl 4 rfl) ?_
              refine lv_iload hx hb dX5_partOf_54 (lv_at hl 5 rfl) ?_
              refine lv_icmp_ne (tgt := 63) hx hb dX5_partOf_56 (by decide) (fun c56 => ?_) (fun c56 => ?_)
              · skip
                refine lv_iload_n hx hb dX5_partOf_63 rfl (lv_at hl 3 rfl) ?_
                exact W.iret (v := nI pp) hx hb hr (fun t ht hW => ⟨nI pp, rfl, by first | exact (part_ne (by omega) hI9 (by rw [← hxa, ← hyb]; exact c56)).symm | exact absurd c22 c56, ht⟩) (fun _ h9 => by cases h9) dX5_partOf_64
              · skip
                refine lv_iconst (v := (-1 : Int32)) hx hb dX5_partOf_59 (by decide) ?_
                refine lv_goto (tgt := 64) hx hb dX5_partOf_60 (by decide) ?_
                exact W.iret (v := (-1 : Int32)) hx hb hr (fun t ht hW => ⟨(-1 : Int32), rfl, by first | exact (part_eq (by omega) hI9 (fnI_neg (by omega) (by rw [← hxa]; exact c27)) (by rw [← hyb, ← c22, hxa]; exact fnI_neg (by omega) (by rw [← hxa]; exact c27))).symm | exact absurd c56 c22, ht⟩) (fun _ h9 => by cases h9) dX5_partOf_64
            · skip
              have hp27 : pp < nl := by rcases Nat.lt_or_ge pp nl with q9 | q9; exact q9; exact absurd (show x < 0 from by rw [hxa, fnI_miss (Nat.le_trans (cnt_le _ _) q9)]; decide) c27
              refine lv_iinc (v := nI (pp + 1)) (lv' := [(3, .int (nI (pp + 1))), (0, .ref (h 0)), (1, .int a), (2, .int b), (4, .int x), (5, .int y)]) hx hb dX5_partOf_30 hl (k := 3) rfl (nI_1 pp) (by decide) rfl (fun ls hl => ?_)
              refine lv_aload_n hx hb dX5_partOf_33 rfl (lv_at hl 1 rfl) ?_
              refine lv_iload_n hx hb dX5_partOf_34 rfl (lv_at hl 2 rfl) ?_
              refine lv_iload_n hx hb dX5_partOf_35 rfl (lv_at hl 0 rfl) ?_
              refine cRi (w := mw G h u lt sj) (As := [.int a, .int (nI (pp + 1))]) (rest := []) ⟨hx, hb, hml, hown, hts⟩ (mt_X5_lineAt l G h u lt sj nl a (pp + 1) (hnl) (by first | assumption | omega) (by first | assumption | omega)) (cwV 2 hts gX5_partOf_X5_lineAt rfl rfl rfl ⟨rfl, hd_X5_lineAt⟩ ⟨Nat.le_of_ble_eq_true rfl, Nat.le_of_ble_eq_true rfl⟩) hK hN hP 0 5 rfl rfl rfl hl.1 rfl (Nat.le_of_ble_eq_true rfl) ⟨Nat.zero_le _, Nat.zero_le _⟩ dX5_partOf_36 (fun r36 hw36 => ?_)
              rcases hw36 with ⟨i36, hi36, hp36, hq36, rfl⟩ | ⟨hq36, rfl⟩
              · skip
                refine lv_istore (lv' := [(4, .int (nI (i36))), (3, .int (nI (pp + 1))), (0, .ref (h 0)), (1, .int a), (2, .int b), (5, .int y)]) hx hb dX5_partOf_39 hl (by decide) rfl (fun ls hl => ?_)
                refine lv_aload_n hx hb dX5_partOf_41 rfl (lv_at hl 2 rfl) ?_
                refine lv_iload_n hx hb dX5_partOf_42 rfl (lv_at hl 4 rfl) ?_
                refine lv_iload_n hx hb dX5_partOf_43 rfl (lv_at hl 1 rfl) ?_
                refine cRi (w := mw G h u lt sj) (As := [.int b, .int (nI (pp + 1))]) (rest := []) ⟨hx, hb, hml, hown, hts⟩ (mt_X5_lineAt l G h u lt sj nl b (pp + 1) (hnl) (by first | assumption | omega) (by first | assumption | omega)) (cwV 2 hts gX5_partOf_X5_lineAt rfl rfl rfl ⟨rfl, hd_X5_lineAt⟩ ⟨Nat.le_of_ble_eq_true rfl, Nat.le_of_ble_eq_true rfl⟩) hK hN hP 0 5 rfl rfl rfl hl.1 rfl (Nat.le_of_ble_eq_true rfl) ⟨Nat.zero_le _, Nat.zero_le _⟩ dX5_partOf_44 (fun r44 hw44 => ?_)
                rcases hw44 with ⟨i44, hi44, hp44, hq44, rfl⟩ | ⟨hq44, rfl⟩
                · skip
                  refine lv_istore (lv' := [(5, .int (nI (i44))), (4, .int (nI (i36))), (3, .int (nI (pp + 1))), (0, .ref (h 0)), (1, .int a), (2, .int b)]) hx hb dX5_partOf_47 hl (by decide) rfl (fun ls hl => ?_)
                  refine lv_goto (tgt := 18) hx hb dX5_partOf_49 (by decide) ?_
                  exact ih18 (pp + 1) (nI (i36)) (nI (i44)) (by first | exact (fnI_hit (by assumption) (by assumption) (by assumption)).symm | exact (fnI_miss (by assumption)).symm) (by first | exact (fnI_hit (by assumption) (by assumption) (by assumption)).symm | exact (fnI_miss (by assumption)).symm) (fun q hq => by by_cases e9 : q = pp; (rw [e9, ← hxa, ← hyb]; assumption); exact hI9 q (by omega)) (by first | assumption | omega) (by omega) ls (lv_sub hl [3, 4, 5, 2, 1, 0] rfl)
                · skip
                  refine lv_istore (lv' := [(5, .int (-1 : Int32)), (4, .int (nI (i36))), (3, .int (nI (pp + 1))), (0, .ref (h 0)), (1, .int a), (2, .int b)]) hx hb dX5_partOf_47 hl (by decide) rfl (fun ls hl => ?_)
                  refine lv_goto (tgt := 18) hx hb dX5_partOf_49 (by decide) ?_
                  exact ih18 (pp + 1) (nI (i36)) (-1 : Int32) (by first | exact (fnI_hit (by assumption) (by assumption) (by assumption)).symm | exact (fnI_miss (by assumption)).symm) (by first | exact (fnI_hit (by assumption) (by assumption) (by assumption)).symm | exact (fnI_miss (by assumption)).symm) (fun q hq => by by_cases e9 : q = pp; (rw [e9, ← hxa, ← hyb]; assumption); exact hI9 q (by omega)) (by first | assumption | omega) (by omega) ls (lv_sub hl [3, 4, 5, 2, 1, 0] rfl)
              · skip
                refine lv_istore (lv' := [(4, .int (-1 : Int32)), (3, .int (nI (pp + 1))), (0, .ref (h 0)), (1, .int a), (2, .int b), (5, .int y)]) hx hb dX5_partOf_39 hl (by decide) rfl (fun ls hl => ?_)
                refine lv_aload_n hx hb dX5_partOf_41 rfl (lv_at hl 2 rfl) ?_
                refine lv_iload_n hx hb dX5_partOf_42 rfl (lv_at hl 4 rfl) ?_
                refine lv_iload_n hx hb dX5_partOf_43 rfl (lv_at hl 1 rfl) ?_
                refine cRi (w := mw G h u lt sj) (As := [.int b, .int (nI (pp + 1))]) (rest := []) ⟨hx, hb, hml, hown, hts⟩ (mt_X5_lineAt l G h u lt sj nl b (pp + 1) (hnl) (by first | assumption | omega) (by first | assumption | omega)) (cwV 2 hts gX5_partOf_X5_lineAt rfl rfl rfl ⟨rfl, hd_X5_lineAt⟩ ⟨Nat.le_of_ble_eq_true rfl, Nat.le_of_ble_eq_true rfl⟩) hK hN hP 0 5 rfl rfl rfl hl.1 rfl (Nat.le_of_ble_eq_true rfl) ⟨Nat.zero_le _, Nat.zero_le _⟩ dX5_partOf_44 (fun r44 hw44 => ?_)
                rcases hw44 with ⟨i44, hi44, hp44, hq44, rfl⟩ | ⟨hq44, rfl⟩
                · skip
                  refine lv_istore (lv' := [(5, .int (nI (i44))), (4, .int (-1 : Int32)), (3, .int (nI (pp + 1))), (0, .ref (h 0)), (1, .int a), (2, .int b)]) hx hb dX5_partOf_47 hl (by decide) rfl (fun ls hl => ?_)
                  refine lv_goto (tgt := 18) hx hb dX5_partOf_49 (by decide) ?_
                  exact ih18 (pp + 1) (-1 : Int32) (nI (i44)) (by first | exact (fnI_hit (by assumption) (by assumption) (by assumption)).symm | exact (fnI_miss (by assumption)).symm) (by first | exact (fnI_hit (by assumption) (by assumption) (by assumption)).symm | exact (fnI_miss (by assumption)).symm) (fun q hq => by by_cases e9 : q = pp; (rw [e9, ← hxa, ← hyb]; assumption); exact hI9 q (by omega)) (by first | assumption | omega) (by omega) ls (lv_sub hl [3, 4, 5, 2, 1, 0] rfl)
                · skip
                  refine lv_istore (lv' := [(5, .int (-1 : Int32)), (4, .int (-1 : Int32)), (3, .int (nI (pp + 1))), (0, .ref (h 0)), (1, .int a), (2, .int b)]) hx hb dX5_partOf_47 hl (by decide) rfl (fun ls hl => ?_)
                  refine lv_goto (tgt := 18) hx hb dX5_partOf_49 (by decide) ?_
                  exact ih18 (pp + 1) (-1 : Int32) (-1 : Int32) (by first | exact (fnI_hit (by assumption) (by assumption) (by assumption)).symm | exact (fnI_miss (by assumption)).symm) (by first | exact (fnI_hit (by assumption) (by assumption) (by assumption)).symm | exact (fnI_miss (by assumption)).symm) (fun q hq => by by_cases e9 : q = pp; (rw [e9, ← hxa, ← hyb]; assumption); exact hI9 q (by omega)) (by first | assumption | omega) (by omega) ls (lv_sub hl [3, 4, 5, 2, 1, 0] rfl)
      exact LP18 (nl + 1 - 0 + 1) 0 (nI (i5)) (-1 : Int32) (by first | exact (fnI_hit (by assumption) (by assumption) (by assumption)).symm | exact (fnI_miss (by assumption)).symm) (by first | exact (fnI_hit (by assumption) (by assumption) (by assumption)).symm | exact (fnI_miss (by assumption)).symm) (fun q hq => absurd hq (Nat.not_lt_zero q)) (by first | assumption | omega) (Nat.lt_succ_self _) ls (lv_sub hl [3, 4, 5, 2, 1, 0] rfl)
  · skip
    refine lv_istore (lv' := [(4, .int (-1 : Int32)), (3, .int (nI 0)), (0, .ref (h 0)), (1, .int a), (2, .int b)]) hx hb dX5_partOf_8 hl (by decide) rfl (fun ls hl => ?_)
    refine lv_aload_n hx hb dX5_partOf_10 rfl (lv_at hl 2 rfl) ?_
    refine lv_iload_n hx hb dX5_partOf_11 rfl (lv_at hl 4 rfl) ?_
    refine lv_iconst (v := nI 0) hx hb dX5_partOf_12 (by decide) ?_
    refine cRi (w := mw G h u lt sj) (As := [.int b, .int (nI 0)]) (rest := []) ⟨hx, hb, hml, hown, hts⟩ (mt_X5_lineAt l G h u lt sj nl b 0 (hnl) (by first | assumption | omega) (by omega)) (cwV 2 hts gX5_partOf_X5_lineAt rfl rfl rfl ⟨rfl, hd_X5_lineAt⟩ ⟨Nat.le_of_ble_eq_true rfl, Nat.le_of_ble_eq_true rfl⟩) hK hN hP 0 5 rfl rfl rfl hl.1 rfl (Nat.le_of_ble_eq_true rfl) ⟨Nat.zero_le _, Nat.zero_le _⟩ dX5_partOf_13 (fun r13 hw13 => ?_)
    rcases hw13 with ⟨i13, hi13, hp13, hq13, rfl⟩ | ⟨hq13, rfl⟩
    · skip
      refine lv_istore (lv' := [(5, .int (nI (i13))), (4, .int (-1 : Int32)), (3, .int (nI 0)), (0, .ref (h 0)), (1, .int a), (2, .int b)]) hx hb dX5_partOf_16 hl (by decide) rfl (fun ls hl => ?_)
      have LP18 : ∀ (n18m : Nat), ∀ (pp : Nat) (x : Int32) (y : Int32) (hxa : x = fnI (sdb (u.2 6) (u.2 7) a) nl pp) (hyb : y = fnI (sdb (u.2 6) (u.2 7) b) nl pp) (hI9 : ∀ q, q < pp → fnI (sdb (u.2 6) (u.2 7) a) nl q = fnI (sdb (u.2 6) (u.2 7) b) nl q) (hpp : pp ≤ nl), (nl + 1 - pp < n18m) → ∀ (ls : Array Slot), lv_has ls 6 [(0, .ref (h 0)), (1, .int a), (2, .int b), (3, .int (nI pp)), (4, .int x), (5, .int y)] → W p l e (headSpec wsX5_partOf ({ frames := 3, cells := 0, slots := 0, locals := 67 })).room s m ([.ref (h 0), .int a, .int b] : List Value).toArray below meth c s.heap [] 0 0 (MQ below (vp_Si (fun r : Int32 => r = partP (sdb (u.2 6) (u.2 7) a) (sdb (u.2 6) (u.2 7) b) nl)) ([.ref (h 0), .int a, .int b] : List Value).toArray s 0 0 (fun _ => False)) (F0 m 18 ls []) := by
        intro n18m
        induction n18m with
        | zero => intro pp x y hxa hyb hI9 hpp hmu ls hl; exact absurd hmu (Nat.not_lt_zero _)
        | succ n18m ih18 =>
          intro pp x y hxa hyb hI9 hpp hmu ls hl
          refine lv_iload hx hb dX5_partOf_18 (lv_at hl 4 rfl) ?_
          refine lv_iload hx hb dX5_partOf_20 (lv_at hl 5 rfl) ?_
          refine lv_icmp_ne (tgt := 52) hx hb dX5_partOf_22 (by decide) (fun c22 => ?_) (fun c22 => ?_)
          · skip
            refine lv_iload hx hb dX5_partOf_52 (lv_at hl 4 rfl) ?_
            refine lv_iload hx hb dX5_partOf_54 (lv_at hl 5 rfl) ?_
            refine lv_icmp_ne (tgt := 63) hx hb dX5_partOf_56 (by decide) (fun c56 => ?_) (fun c56 => ?_)
            · skip
              refine lv_iload_n hx hb dX5_partOf_63 rfl (lv_at hl 3 rfl) ?_
              exact W.iret (v := nI pp) hx hb hr (fun t ht hW => ⟨nI pp, rfl, by first | exact (part_ne (by omega) hI9 (by rw [← hxa, ← hyb]; exact c56)).symm | exact absurd c22 c56, ht⟩) (fun _ h9 => by cases h9) dX5_partOf_64
            · skip
              refine lv_iconst (v := (-1 : Int32)) hx hb dX5_partOf_59 (by decide) ?_
              refine lv_goto (tgt := 64) hx hb dX5_partOf_60 (by decide) ?_
              exact W.iret (v := (-1 : Int32)) hx hb hr (fun t ht hW => ⟨(-1 : Int32), rfl, by first | exact (part_eq (by omega) hI9 (fnI_neg (by omega) (by rw [← hxa]; exact c27)) (by rw [← hyb, ← c22, hxa]; exact fnI_neg (by omega) (by rw [← hxa]; exact c27))).symm | exact absurd c56 c22, ht⟩) (fun _ h9 => by cases h9) dX5_partOf_64
          · skip
            refine lv_iload hx hb dX5_partOf_25 (lv_at hl 4 rfl) ?_
            refine lv_if_lt (tgt := 52) hx hb dX5_partOf_27 (by decide) (fun c27 => ?_) (fun c27 => ?_)
            · skip
              refine lv_iload hx hb dX5_partOf_52 (lv_at hl 4 rfl) ?_
              refine lv_iload hx hb dX5_partOf_54 (lv_at hl 5 rfl) ?_
              refine lv_icmp_ne (tgt := 63) hx hb dX5_partOf_56 (by decide) (fun c56 => ?_) (fun c56 => ?_)
              · skip
                refine lv_iload_n hx hb dX5_partOf_63 rfl (lv_at hl 3 rfl) ?_
                exact W.iret (v := nI pp) hx hb hr (fun t ht hW => ⟨nI pp, rfl, by first | exact (part_ne (by omega) hI9 (by rw [← hxa, ← hyb]; exact c56)).symm | exact absurd c22 c56, ht⟩) (fun _ h9 => by cases h9) dX5_partOf_64
              · skip
                refine lv_iconst (v := (-1 : Int32)) hx hb dX5_partOf_59 (by decide) ?_
                refine lv_goto (tgt := 64) hx hb dX5_partOf_60 (by decide) ?_
                exact W.iret (v := (-1 : Int32)) hx hb hr (fun t ht hW => ⟨(-1 : Int32), rfl, by first | exact (part_eq (by omega) hI9 (fnI_neg (by omega) (by rw [← hxa]; exact c27)) (by rw [← hyb, ← c22, hxa]; exact fnI_neg (by omega) (by rw [← hxa]; exact c27))).symm | exact absurd c56 c22, ht⟩) (fun _ h9 => by cases h9) dX5_partOf_64
            · skip
              have hp27 : pp < nl := by rcases Nat.lt_or_ge pp nl with q9 | q9; exact q9; exact absurd (show x < 0 from by rw [hxa, fnI_miss (Nat.le_trans (cnt_le _ _) q9)]; decide) c27
              refine lv_iinc (v := nI (pp + 1)) (lv' := [(3, .int (nI (pp + 1))), (0, .ref (h 0)), (1, .int a), (2, .int b), (4, .int x), (5, .int y)]) hx hb dX5_partOf_30 hl (k := 3) rfl (nI_1 pp) (by decide) rfl (fun ls hl => ?_)
              refine lv_aload_n hx hb dX5_partOf_33 rfl (lv_at hl 1 rfl) ?_
              refine lv_iload_n hx hb dX5_partOf_34 rfl (lv_at hl 2 rfl) ?_
              refine lv_iload_n hx hb dX5_partOf_35 rfl (lv_at hl 0 rfl) ?_
              refine cRi (w := mw G h u lt sj) (As := [.int a, .int (nI (pp + 1))]) (rest := []) ⟨hx, hb, hml, hown, hts⟩ (mt_X5_lineAt l G h u lt sj nl a (pp + 1) (hnl) (by first | assumption | omega) (by first | assumption | omega)) (cwV 2 hts gX5_partOf_X5_lineAt rfl rfl rfl ⟨rfl, hd_X5_lineAt⟩ ⟨Nat.le_of_ble_eq_true rfl, Nat.le_of_ble_eq_true rfl⟩) hK hN hP 0 5 rfl rfl rfl hl.1 rfl (Nat.le_of_ble_eq_true rfl) ⟨Nat.zero_le _, Nat.zero_le _⟩ dX5_partOf_36 (fun r36 hw36 => ?_)
              rcases hw36 with ⟨i36, hi36, hp36, hq36, rfl⟩ | ⟨hq36, rfl⟩
              · skip
                refine lv_istore (lv' := [(4, .int (nI (i36))), (3, .int (nI (pp + 1))), (0, .ref (h 0)), (1, .int a), (2, .int b), (5, .int y)]) hx hb dX5_partOf_39 hl (by decide) rfl (fun ls hl => ?_)
                refine lv_aload_n hx hb dX5_partOf_41 rfl (lv_at hl 2 rfl) ?_
                refine lv_iload_n hx hb dX5_partOf_42 rfl (lv_at hl 4 rfl) ?_
                refine lv_iload_n hx hb dX5_partOf_43 rfl (lv_at hl 1 rfl) ?_
                refine cRi (w := mw G h u lt sj) (As := [.int b, .int (nI (pp + 1))]) (rest := []) ⟨hx, hb, hml, hown, hts⟩ (mt_X5_lineAt l G h u lt sj nl b (pp + 1) (hnl) (by first | assumption | omega) (by first | assumption | omega)) (cwV 2 hts gX5_partOf_X5_lineAt rfl rfl rfl ⟨rfl, hd_X5_lineAt⟩ ⟨Nat.le_of_ble_eq_true rfl, Nat.le_of_ble_eq_true rfl⟩) hK hN hP 0 5 rfl rfl rfl hl.1 rfl (Nat.le_of_ble_eq_true rfl) ⟨Nat.zero_le _, Nat.zero_le _⟩ dX5_partOf_44 (fun r44 hw44 => ?_)
                rcases hw44 with ⟨i44, hi44, hp44, hq44, rfl⟩ | ⟨hq44, rfl⟩
                · skip
                  refine lv_istore (lv' := [(5, .int (nI (i44))), (4, .int (nI (i36))), (3, .int (nI (pp + 1))), (0, .ref (h 0)), (1, .int a), (2, .int b)]) hx hb dX5_partOf_47 hl (by decide) rfl (fun ls hl => ?_)
                  refine lv_goto (tgt := 18) hx hb dX5_partOf_49 (by decide) ?_
                  exact ih18 (pp + 1) (nI (i36)) (nI (i44)) (by first | exact (fnI_hit (by assumption) (by assumption) (by assumption)).symm | exact (fnI_miss (by assumption)).symm) (by first | exact (fnI_hit (by assumption) (by assumption) (by assumption)).symm | exact (fnI_miss (by assumption)).symm) (fun q hq => by by_cases e9 : q = pp; (rw [e9, ← hxa, ← hyb]; assumption); exact hI9 q (by omega)) (by first | assumption | omega) (by omega) ls (lv_sub hl [3, 4, 5, 2, 1, 0] rfl)
                · skip
                  refine lv_istore (lv' := [(5, .int (-1 : Int32)), (4, .int (nI (i36))), (3, .int (nI (pp + 1))), (0, .ref (h 0)), (1, .int a), (2, .int b)]) hx hb dX5_partOf_47 hl (by decide) rfl (fun ls hl => ?_)
                  refine lv_goto (tgt := 18) hx hb dX5_partOf_49 (by decide) ?_
                  exact ih18 (pp + 1) (nI (i36)) (-1 : Int32) (by first | exact (fnI_hit (by assumption) (by assumption) (by assumption)).symm | exact (fnI_miss (by assumption)).symm) (by first | exact (fnI_hit (by assumption) (by assumption) (by assumption)).symm | exact (fnI_miss (by assumption)).symm) (fun q hq => by by_cases e9 : q = pp; (rw [e9, ← hxa, ← hyb]; assumption); exact hI9 q (by omega)) (by first | assumption | omega) (by omega) ls (lv_sub hl [3, 4, 5, 2, 1, 0] rfl)
              · skip
                refine lv_istore (lv' := [(4, .int (-1 : Int32)), (3, .int (nI (pp + 1))), (0, .ref (h 0)), (1, .int a), (2, .int b), (5, .int y)]) hx hb dX5_partOf_39 hl (by decide) rfl (fun ls hl => ?_)
                refine lv_aload_n hx hb dX5_partOf_41 rfl (lv_at hl 2 rfl) ?_
                refine lv_iload_n hx hb dX5_partOf_42 rfl (lv_at hl 4 rfl) ?_
                refine lv_iload_n hx hb dX5_partOf_43 rfl (lv_at hl 1 rfl) ?_
                refine cRi (w := mw G h u lt sj) (As := [.int b, .int (nI (pp + 1))]) (rest := []) ⟨hx, hb, hml, hown, hts⟩ (mt_X5_lineAt l G h u lt sj nl b (pp + 1) (hnl) (by first | assumption | omega) (by first | assumption | omega)) (cwV 2 hts gX5_partOf_X5_lineAt rfl rfl rfl ⟨rfl, hd_X5_lineAt⟩ ⟨Nat.le_of_ble_eq_true rfl, Nat.le_of_ble_eq_true rfl⟩) hK hN hP 0 5 rfl rfl rfl hl.1 rfl (Nat.le_of_ble_eq_true rfl) ⟨Nat.zero_le _, Nat.zero_le _⟩ dX5_partOf_44 (fun r44 hw44 => ?_)
                rcases hw44 with ⟨i44, hi44, hp44, hq44, rfl⟩ | ⟨hq44, rfl⟩
                · skip
                  refine lv_istore (lv' := [(5, .int (nI (i44))), (4, .int (-1 : Int32)), (3, .int (nI (pp + 1))), (0, .ref (h 0)), (1, .int a), (2, .int b)]) hx hb dX5_partOf_47 hl (by decide) rfl (fun ls hl => ?_)
                  refine lv_goto (tgt := 18) hx hb dX5_partOf_49 (by decide) ?_
                  exact ih18 (pp + 1) (-1 : Int32) (nI (i44)) (by first | exact (fnI_hit (by assumption) (by assumption) (by assumption)).symm | exact (fnI_miss (by assumption)).symm) (by first | exact (fnI_hit (by assumption) (by assumption) (by assumption)).symm | exact (fnI_miss (by assumption)).symm) (fun q hq => by by_cases e9 : q = pp; (rw [e9, ← hxa, ← hyb]; assumption); exact hI9 q (by omega)) (by first | assumption | omega) (by omega) ls (lv_sub hl [3, 4, 5, 2, 1, 0] rfl)
                · skip
                  refine lv_istore (lv' := [(5, .int (-1 : Int32)), (4, .int (-1 : Int32)), (3, .int (nI (pp + 1))), (0, .ref (h 0)), (1, .int a), (2, .int b)]) hx hb dX5_partOf_47 hl (by decide) rfl (fun ls hl => ?_)
                  refine lv_goto (tgt := 18) hx hb dX5_partOf_49 (by decide) ?_
                  exact ih18 (pp + 1) (-1 : Int32) (-1 : Int32) (by first | exact (fnI_hit (by assumption) (by assumption) (by assumption)).symm | exact (fnI_miss (by assumption)).symm) (by first | exact (fnI_hit (by assumption) (by assumption) (by assumption)).symm | exact (fnI_miss (by assumption)).symm) (fun q hq => by by_cases e9 : q = pp; (rw [e9, ← hxa, ← hyb]; assumption); exact hI9 q (by omega)) (by first | assumption | omega) (by omega) ls (lv_sub hl [3, 4, 5, 2, 1, 0] rfl)
      exact LP18 (nl + 1 - 0 + 1) 0 (-1 : Int32) (nI (i13)) (by first | exact (fnI_hit (by assumption) (by assumption) (by assumption)).symm | exact (fnI_miss (by assumption)).symm) (by first | exact (fnI_hit (by assumption) (by assumption) (by assumption)).symm | exact (fnI_miss (by assumption)).symm) (fun q hq => absurd hq (Nat.not_lt_zero q)) (by first | assumption | omega) (Nat.lt_succ_self _) ls (lv_sub hl [3, 4, 5, 2, 1, 0] rfl)
    · skip
      refine lv_istore (lv' := [(5, .int (-1 : Int32)), (4, .int (-1 : Int32)), (3, .int (nI 0)), (0, .ref (h 0)), (1, .int a), (2, .int b)]) hx hb dX5_partOf_16 hl (by decide) rfl (fun ls hl => ?_)
      have LP18 : ∀ (n18m : Nat), ∀ (pp : Nat) (x : Int32) (y : Int32) (hxa : x = fnI (sdb (u.2 6) (u.2 7) a) nl pp) (hyb : y = fnI (sdb (u.2 6) (u.2 7) b) nl pp) (hI9 : ∀ q, q < pp → fnI (sdb (u.2 6) (u.2 7) a) nl q = fnI (sdb (u.2 6) (u.2 7) b) nl q) (hpp : pp ≤ nl), (nl + 1 - pp < n18m) → ∀ (ls : Array Slot), lv_has ls 6 [(0, .ref (h 0)), (1, .int a), (2, .int b), (3, .int (nI pp)), (4, .int x), (5, .int y)] → W p l e (headSpec wsX5_partOf ({ frames := 3, cells := 0, slots := 0, locals := 67 })).room s m ([.ref (h 0), .int a, .int b] : List Value).toArray below meth c s.heap [] 0 0 (MQ below (vp_Si (fun r : Int32 => r = partP (sdb (u.2 6) (u.2 7) a) (sdb (u.2 6) (u.2 7) b) nl)) ([.ref (h 0), .int a, .int b] : List Value).toArray s 0 0 (fun _ => False)) (F0 m 18 ls []) := by
        intro n18m
        induction n18m with
        | zero => intro pp x y hxa hyb hI9 hpp hmu ls hl; exact absurd hmu (Nat.not_lt_zero _)
        | succ n18m ih18 =>
          intro pp x y hxa hyb hI9 hpp hmu ls hl
          refine lv_iload hx hb dX5_partOf_18 (lv_at hl 4 rfl) ?_
          refine lv_iload hx hb dX5_partOf_20 (lv_at hl 5 rfl) ?_
          refine lv_icmp_ne (tgt := 52) hx hb dX5_partOf_22 (by decide) (fun c22 => ?_) (fun c22 => ?_)
          · skip
            refine lv_iload hx hb dX5_partOf_52 (lv_at hl 4 rfl) ?_
            refine lv_iload hx hb dX5_partOf_54 (lv_at hl 5 rfl) ?_
            refine lv_icmp_ne (tgt := 63) hx hb dX5_partOf_56 (by decide) (fun c56 => ?_) (fun c56 => ?_)
            · skip
              refine lv_iload_n hx hb dX5_partOf_63 rfl (lv_at hl 3 rfl) ?_
              exact W.iret (v := nI pp) hx hb hr (fun t ht hW => ⟨nI pp, rfl, by first | exact (part_ne (by omega) hI9 (by rw [← hxa, ← hyb]; exact c56)).symm | exact absurd c22 c56, ht⟩) (fun _ h9 => by cases h9) dX5_partOf_64
            · skip
              refine lv_iconst (v := (-1 : Int32)) hx hb dX5_partOf_59 (by decide) ?_
              refine lv_goto (tgt := 64) hx hb dX5_partOf_60 (by decide) ?_
              exact W.iret (v := (-1 : Int32)) hx hb hr (fun t ht hW => ⟨(-1 : Int32), rfl, by first | exact (part_eq (by omega) hI9 (fnI_neg (by omega) (by rw [← hxa]; exact c27)) (by rw [← hyb, ← c22, hxa]; exact fnI_neg (by omega) (by rw [← hxa]; exact c27))).symm | exact absurd c56 c22, ht⟩) (fun _ h9 => by cases h9) dX5_partOf_64
          · skip
            refine lv_iload hx hb dX5_partOf_25 (lv_at hl 4 rfl) ?_
            refine lv_if_lt (tgt := 52) hx hb dX5_partOf_27 (by decide) (fun c27 => ?_) (fun c27 => ?_)
            · skip
              refine lv_iload hx hb dX5_partOf_52 (lv_at hl 4 rfl) ?_
              refine lv_iload hx hb dX5_partOf_54 (lv_at hl 5 rfl) ?_
              refine lv_icmp_ne (tgt := 63) hx hb dX5_partOf_56 (by decide) (fun c56 => ?_) (fun c56 => ?_)
              · skip
                refine lv_iload_n hx hb dX5_partOf_63 rfl (lv_at hl 3 rfl) ?_
                exact W.iret (v := nI pp) hx hb hr (fun t ht hW => ⟨nI pp, rfl, by first | exact (part_ne (by omega) hI9 (by rw [← hxa, ← hyb]; exact c56)).symm | exact absurd c22 c56, ht⟩) (fun _ h9 => by cases h9) dX5_partOf_64
              · skip
                refine lv_iconst (v := (-1 : Int32)) hx hb dX5_partOf_59 (by decide) ?_
                refine lv_goto (tgt := 64) hx hb dX5_partOf_60 (by decide) ?_
                exact W.iret (v := (-1 : Int32)) hx hb hr (fun t ht hW => ⟨(-1 : Int32), rfl, by first | exact (part_eq (by omega) hI9 (fnI_neg (by omega) (by rw [← hxa]; exact c27)) (by rw [← hyb, ← c22, hxa]; exact fnI_neg (by omega) (by rw [← hxa]; exact c27))).symm | exact absurd c56 c22, ht⟩) (fun _ h9 => by cases h9) dX5_partOf_64
            · skip
              have hp27 : pp < nl := by rcases Nat.lt_or_ge pp nl with q9 | q9; exact q9; exact absurd (show x < 0 from by rw [hxa, fnI_miss (Nat.le_trans (cnt_le _ _) q9)]; decide) c27
              refine lv_iinc (v := nI (pp + 1)) (lv' := [(3, .int (nI (pp + 1))), (0, .ref (h 0)), (1, .int a), (2, .int b), (4, .int x), (5, .int y)]) hx hb dX5_partOf_30 hl (k := 3) rfl (nI_1 pp) (by decide) rfl (fun ls hl => ?_)
              refine lv_aload_n hx hb dX5_partOf_33 rfl (lv_at hl 1 rfl) ?_
              refine lv_iload_n hx hb dX5_partOf_34 rfl (lv_at hl 2 rfl) ?_
              refine lv_iload_n hx hb dX5_partOf_35 rfl (lv_at hl 0 rfl) ?_
              refine cRi (w := mw G h u lt sj) (As := [.int a, .int (nI (pp + 1))]) (rest := []) ⟨hx, hb, hml, hown, hts⟩ (mt_X5_lineAt l G h u lt sj nl a (pp + 1) (hnl) (by first | assumption | omega) (by first | assumption | omega)) (cwV 2 hts gX5_partOf_X5_lineAt rfl rfl rfl ⟨rfl, hd_X5_lineAt⟩ ⟨Nat.le_of_ble_eq_true rfl, Nat.le_of_ble_eq_true rfl⟩) hK hN hP 0 5 rfl rfl rfl hl.1 rfl (Nat.le_of_ble_eq_true rfl) ⟨Nat.zero_le _, Nat.zero_le _⟩ dX5_partOf_36 (fun r36 hw36 => ?_)
              rcases hw36 with ⟨i36, hi36, hp36, hq36, rfl⟩ | ⟨hq36, rfl⟩
              · skip
                refine lv_istore (lv' := [(4, .int (nI (i36))), (3, .int (nI (pp + 1))), (0, .ref (h 0)), (1, .int a), (2, .int b), (5, .int y)]) hx hb dX5_partOf_39 hl (by decide) rfl (fun ls hl => ?_)
                refine lv_aload_n hx hb dX5_partOf_41 rfl (lv_at hl 2 rfl) ?_
                refine lv_iload_n hx hb dX5_partOf_42 rfl (lv_at hl 4 rfl) ?_
                refine lv_iload_n hx hb dX5_partOf_43 rfl (lv_at hl 1 rfl) ?_
                refine cRi (w := mw G h u lt sj) (As := [.int b, .int (nI (pp + 1))]) (rest := []) ⟨hx, hb, hml, hown, hts⟩ (mt_X5_lineAt l G h u lt sj nl b (pp + 1) (hnl) (by first | assumption | omega) (by first | assumption | omega)) (cwV 2 hts gX5_partOf_X5_lineAt rfl rfl rfl ⟨rfl, hd_X5_lineAt⟩ ⟨Nat.le_of_ble_eq_true rfl, Nat.le_of_ble_eq_true rfl⟩) hK hN hP 0 5 rfl rfl rfl hl.1 rfl (Nat.le_of_ble_eq_true rfl) ⟨Nat.zero_le _, Nat.zero_le _⟩ dX5_partOf_44 (fun r44 hw44 => ?_)
                rcases hw44 with ⟨i44, hi44, hp44, hq44, rfl⟩ | ⟨hq44, rfl⟩
                · skip
                  refine lv_istore (lv' := [(5, .int (nI (i44))), (4, .int (nI (i36))), (3, .int (nI (pp + 1))), (0, .ref (h 0)), (1, .int a), (2, .int b)]) hx hb dX5_partOf_47 hl (by decide) rfl (fun ls hl => ?_)
                  refine lv_goto (tgt := 18) hx hb dX5_partOf_49 (by decide) ?_
                  exact ih18 (pp + 1) (nI (i36)) (nI (i44)) (by first | exact (fnI_hit (by assumption) (by assumption) (by assumption)).symm | exact (fnI_miss (by assumption)).symm) (by first | exact (fnI_hit (by assumption) (by assumption) (by assumption)).symm | exact (fnI_miss (by assumption)).symm) (fun q hq => by by_cases e9 : q = pp; (rw [e9, ← hxa, ← hyb]; assumption); exact hI9 q (by omega)) (by first | assumption | omega) (by omega) ls (lv_sub hl [3, 4, 5, 2, 1, 0] rfl)
                · skip
                  refine lv_istore (lv' := [(5, .int (-1 : Int32)), (4, .int (nI (i36))), (3, .int (nI (pp + 1))), (0, .ref (h 0)), (1, .int a), (2, .int b)]) hx hb dX5_partOf_47 hl (by decide) rfl (fun ls hl => ?_)
                  refine lv_goto (tgt := 18) hx hb dX5_partOf_49 (by decide) ?_
                  exact ih18 (pp + 1) (nI (i36)) (-1 : Int32) (by first | exact (fnI_hit (by assumption) (by assumption) (by assumption)).symm | exact (fnI_miss (by assumption)).symm) (by first | exact (fnI_hit (by assumption) (by assumption) (by assumption)).symm | exact (fnI_miss (by assumption)).symm) (fun q hq => by by_cases e9 : q = pp; (rw [e9, ← hxa, ← hyb]; assumption); exact hI9 q (by omega)) (by first | assumption | omega) (by omega) ls (lv_sub hl [3, 4, 5, 2, 1, 0] rfl)
              · skip
                refine lv_istore (lv' := [(4, .int (-1 : Int32)), (3, .int (nI (pp + 1))), (0, .ref (h 0)), (1, .int a), (2, .int b), (5, .int y)]) hx hb dX5_partOf_39 hl (by decide) rfl (fun ls hl => ?_)
                refine lv_aload_n hx hb dX5_partOf_41 rfl (lv_at hl 2 rfl) ?_
                refine lv_iload_n hx hb dX5_partOf_42 rfl (lv_at hl 4 rfl) ?_
                refine lv_iload_n hx hb dX5_partOf_43 rfl (lv_at hl 1 rfl) ?_
                refine cRi (w := mw G h u lt sj) (As := [.int b, .int (nI (pp + 1))]) (rest := []) ⟨hx, hb, hml, hown, hts⟩ (mt_X5_lineAt l G h u lt sj nl b (pp + 1) (hnl) (by first | assumption | omega) (by first | assumption | omega)) (cwV 2 hts gX5_partOf_X5_lineAt rfl rfl rfl ⟨rfl, hd_X5_lineAt⟩ ⟨Nat.le_of_ble_eq_true rfl, Nat.le_of_ble_eq_true rfl⟩) hK hN hP 0 5 rfl rfl rfl hl.1 rfl (Nat.le_of_ble_eq_true rfl) ⟨Nat.zero_le _, Nat.zero_le _⟩ dX5_partOf_44 (fun r44 hw44 => ?_)
                rcases hw44 with ⟨i44, hi44, hp44, hq44, rfl⟩ | ⟨hq44, rfl⟩
                · skip
                  refine lv_istore (lv' := [(5, .int (nI (i44))), (4, .int (-1 : Int32)), (3, .int (nI (pp + 1))), (0, .ref (h 0)), (1, .int a), (2, .int b)]) hx hb dX5_partOf_47 hl (by decide) rfl (fun ls hl => ?_)
                  refine lv_goto (tgt := 18) hx hb dX5_partOf_49 (by decide) ?_
                  exact ih18 (pp + 1) (-1 : Int32) (nI (i44)) (by first | exact (fnI_hit (by assumption) (by assumption) (by assumption)).symm | exact (fnI_miss (by assumption)).symm) (by first | exact (fnI_hit (by assumption) (by assumption) (by assumption)).symm | exact (fnI_miss (by assumption)).symm) (fun q hq => by by_cases e9 : q = pp; (rw [e9, ← hxa, ← hyb]; assumption); exact hI9 q (by omega)) (by first | assumption | omega) (by omega) ls (lv_sub hl [3, 4, 5, 2, 1, 0] rfl)
                · skip
                  refine lv_istore (lv' := [(5, .int (-1 : Int32)), (4, .int (-1 : Int32)), (3, .int (nI (pp + 1))), (0, .ref (h 0)), (1, .int a), (2, .int b)]) hx hb dX5_partOf_47 hl (by decide) rfl (fun ls hl => ?_)
                  refine lv_goto (tgt := 18) hx hb dX5_partOf_49 (by decide) ?_
                  exact ih18 (pp + 1) (-1 : Int32) (-1 : Int32) (by first | exact (fnI_hit (by assumption) (by assumption) (by assumption)).symm | exact (fnI_miss (by assumption)).symm) (by first | exact (fnI_hit (by assumption) (by assumption) (by assumption)).symm | exact (fnI_miss (by assumption)).symm) (fun q hq => by by_cases e9 : q = pp; (rw [e9, ← hxa, ← hyb]; assumption); exact hI9 q (by omega)) (by first | assumption | omega) (by omega) ls (lv_sub hl [3, 4, 5, 2, 1, 0] rfl)
      exact LP18 (nl + 1 - 0 + 1) 0 (-1 : Int32) (-1 : Int32) (by first | exact (fnI_hit (by assumption) (by assumption) (by assumption)).symm | exact (fnI_miss (by assumption)).symm) (by first | exact (fnI_hit (by assumption) (by assumption) (by assumption)).symm | exact (fnI_miss (by assumption)).symm) (fun q hq => absurd hq (Nat.not_lt_zero q)) (by first | assumption | omega) (Nat.lt_succ_self _) ls (lv_sub hl [3, 4, 5, 2, 1, 0] rfl)
