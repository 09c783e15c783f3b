set_option maxHeartbeats 1000000 in
set_option maxRecDepth 100000 in
theorem mt_X5_putNow (l : Launch) (G : gG) (h : Nat → Nat) (sz : Nat) (u : oS) (lt : Int64) (sj : Nat → Int64) (nv : Nat) (nl : Nat) (q : Nat) (lett : Int32) (hnv : u.1 0 = nI nv) (hnl : u.1 4 = nI nl) (hnv24 : nv ≤ 24) (hnl119 : nl < 120) (hpar : parOK (u.2 1) (nv + 1)) (hq : q < 2147483648) : Met l yX5_putNow wsX5_putNow ({ frames := 3, cells := 0, slots := 0, locals := 67 }) (preW G (mw G h u lt sj) sz [.ref (h 0), .int (nI q), .int lett]) (va_Qi (fun (r : Int32) (v : oS × Int64 × (Nat → Int64)) => ∃ g f5 f6 f7, v = (oI (ln3 (oA u 26 g) f5 f6 f7) 4 (nI (nl + 1)), lt, sj) ∧ ∃ a, a ≤ nl ∧ r = nI a) (fun v t => PP G (mw G h v.1 v.2.1 v.2.2) t.heap) (va_A (mw G h u lt sj) sz)) 0 0 (va_A (mw G h u lt sj) sz) := by
  refine Met.ofW (cc := cX5_putNow) (maxL := 5) (ret := (some .int)) (by decide) rfl ?_
  intro p e s m args below meth c s₁ B hml hv
  obtain ⟨ha, hsz, hP, hK, hN, hD0⟩ := hv
  subst ha
  have hx := B.exec
  have hb := B.bytes
  have hr := B.returns
  have hts := atoms_spec (ws := wsX5_putNow) B.pre
  have hown : s.vm.findClass RX5 = some m.cls := findClass_of_methodNamed B.named
  have hlocks := B.notSynchronized
  subst hsz
  have hD := hD0.self (sz := s.heap.size)
  generalize hAe : va_A (mw G h u lt sj) s.heap.size = A at hD ⊢
  have hA : ∀ q : Nat, s.heap.size ≤ q → A q := fun q h => by rw [← hAe]; exact Or.inr h
  clear hAe hD0
  have hS : va_S A s.heap s.heap [] := va_S.rf
  have hiX5 : ∀ w ∈ wsX50, w ∈ wsX5_putNow := by decide +kernel
  have k91 := hts (.fieldLink RX5 91 "WovenHistoryModel" "versions" "I") (List.mem_of_getElem? (i := 1) rfl)
  have k175 := hts (.fieldLink RX5 175 "WovenHistoryModel" "lines" "I") (List.mem_of_getElem? (i := 2) rfl)
  have k19 := hts (.fieldLink RX5 19 "WovenHistoryModel" "letter" "[I") (List.mem_of_getElem? (i := 3) rfl)
  have k22 := hts (.fieldLink RX5 22 "WovenHistoryModel" "brought" "[I") (List.mem_of_getElem? (i := 4) rfl)
  have k25 := hts (.fieldLink RX5 25 "WovenHistoryModel" "took" "[I") (List.mem_of_getElem? (i := 5) rfl)
  have hl := lv_entry ([.ref (h 0), .int (nI q), .int lett]) (n := 5) (Nat.le_of_ble_eq_true rfl)
  rw [lg_entry_eq]
  generalize (lg_sl ([.ref (h 0), .int (nI q), .int lett]) ++ List.replicate (5 - (lg_sl ([.ref (h 0), .int (nI q), .int lett])).length) Slot.unset).toArray = ls at hl ⊢
  have hl : lv_has ls 5 [(0, .ref (h 0)), (1, .int (nI q)), (2, .int lett)] := hl
  refine lv_iload_n hx hb dX5_putNow_0 rfl (lv_at hl 1 rfl) ?_
  refine lv_if_ne (tgt := 8) hx hb dX5_putNow_1 (by decide) (fun c1 => ?_) (fun c1 => ?_)
  · skip
    have n1 : ¬ (q = 0) := fun q9 => c1 ((nI_eq (a := q) (b := 0) (by omega) (by omega)).mpr q9)
    refine lv_aload_n hx hb dX5_putNow_8 rfl (lv_at hl 0 rfl) ?_
    refine lv_aload_n hx hb dX5_putNow_9 rfl (lv_at hl 0 rfl) ?_
    refine lv_aload_n hx hb dX5_putNow_10 rfl (lv_at hl 0 rfl) ?_
    refine va_get (D := gD G) (ci := 5) (v := .int (u.1 0)) (C := RX5) (T := TX5) (N := 38) hx hb hts hiX5 hown hK hP 0 rfl rfl 0 (by decide) k91 (fun _ h9 => h9) rfl dX5_putNow_11 ?_
    refine topE hnv ?_
    have hP := mw_self26 hP
    have hD : va_D A (mw G h (oA u 26 (u.2 26)) lt sj) := mw_self26D hD
    refine cXi (As := [.int (nI nv)]) (rest := [.ref (h 0)]) (S := oS × Int64 × (Nat → Int64)) (wa := mw G h (oA u 26 (u.2 26)) lt sj) (w1 := fun v => mw G h v.1 v.2.1 v.2.2) ⟨hx, hb, hml, hown, hts⟩ (mt_X5_changesOf l G h _ u lt sj (u.2 26) nv (by first | assumption | omega) (by first | assumption | omega)) (cwV 1 hts gX5_putNow_X5_changesOf rfl rfl rfl (by decide +kernel) ⟨Nat.le_of_ble_eq_true rfl, Nat.le_of_ble_eq_true rfl⟩) hK hN hP hD hS hA (fun _ => rfl) 0 5 rfl rfl rfl hl.1 rfl (Nat.le_of_ble_eq_true rfl) ⟨Nat.zero_le _, Nat.zero_le _⟩ dX5_putNow_14 (fun r14 u14 H locs hw14 hP hD hS => ?_)
    obtain ⟨g14, rfl, rfl⟩ := hw14
    have hP : PP G (mw G h (oA u 26 g14) lt sj) H := hP
    have hD : va_D A (mw G h (oA u 26 g14) lt sj) := hD
    refine lv_iload_n hx hb dX5_putNow_17 rfl (lv_at hl 1 rfl) ?_
    refine lv_iconst (v := nI 1) hx hb dX5_putNow_18 (by decide) ?_
    refine lv_isub hx hb dX5_putNow_19 ?_
    refine topE (y := nI (q - 1)) (pk_sub (by omega)) ?_
    refine cRi (w := mw G h (oA u 26 g14) lt sj) (As := [.int (chV (u.2 1) (u.2 2) (u.2 3) (nI nv)), .int (nI (q - 1))]) (rest := []) ⟨hx, hb, hml, hown, hts⟩ (mt_X5_lineAt l G h (oA u 26 g14) lt sj nl (chV (u.2 1) (u.2 2) (u.2 3) (nI nv)) (q - 1) (hnl) (by omega) (by omega)) (cwV 2 hts gX5_putNow_X5_lineAt rfl rfl rfl (by decide +kernel) ⟨Nat.le_of_ble_eq_true rfl, Nat.le_of_ble_eq_true rfl⟩) hK hN hP 0 5 rfl rfl rfl hl.1 rfl (Nat.le_of_ble_eq_true rfl) ⟨Nat.zero_le _, Nat.zero_le _⟩ dX5_putNow_20 (fun r20 hw20 => ?_)
    rcases hw20 with ⟨i20, hi20, hp20, hq20, rfl⟩ | ⟨hq20, rfl⟩
    · skip
      refine lv_iconst (v := nI 1) hx hb dX5_putNow_23 (by decide) ?_
      refine lv_iadd hx hb dX5_putNow_24 ?_
      refine topE (y := nI (i20 + 1)) (nI_add i20 1) ?_
      refine lv_istore_n (lv' := [(3, .int (nI (i20 + 1))), (0, .ref (h 0)), (1, .int (nI q)), (2, .int lett)]) hx hb dX5_putNow_25 rfl hl (by decide) rfl (fun ls hl => ?_)
      refine lv_aload_n hx hb dX5_putNow_26 rfl (lv_at hl 1 rfl) ?_
      refine va_get (D := gD G) (ci := 5) (v := .int (u.1 4)) (C := RX5) (T := TX5) (N := 38) hx hb hts hiX5 hown hK hP 0 rfl rfl 4 (by decide) k175 (fun _ h9 => h9) rfl dX5_putNow_27 ?_
      refine topE hnl ?_
      refine lv_istore (lv' := [(4, .int (nI nl)), (3, .int (nI (i20 + 1))), (0, .ref (h 0)), (1, .int (nI q)), (2, .int lett)]) hx hb dX5_putNow_30 hl (by decide) rfl (fun ls hl => ?_)
      have LP32 : ∀ (n32m : Nat), ∀ (aa : Nat) (k : Nat) (g : Nat → Int32) (f5 : Nat → Int32) (f6 : Nat → Int32) (f7 : Nat → Int32) (haa : aa ≤ nl) (hk : k ≤ nl), (k < n32m) → ∀ (H : Heap) (locs : List Loc) (ls : Array Slot), PP G (mw G h (ln3 (oA u 26 g) f5 f6 f7) lt sj) H → va_D A (mw G h (ln3 (oA u 26 g) f5 f6 f7) lt sj) → va_S A s.heap H locs → lv_has ls 5 [(0, .ref (h 0)), (2, .int lett), (3, .int (nI aa)), (4, .int (nI k))] → W p l e (headSpec wsX5_putNow ({ frames := 3, cells := 0, slots := 0, locals := 67 })).room s m ([.ref (h 0), .int (nI q), .int lett] : List Value).toArray below meth c H locs 0 0 (MQ below (va_Qi (fun (r : Int32) (v : oS × Int64 × (Nat → Int64)) => ∃ g f5 f6 f7, v = (oI (ln3 (oA u 26 g) f5 f6 f7) 4 (nI (nl + 1)), lt, sj) ∧ ∃ a, a ≤ nl ∧ r = nI a) (fun v t => PP G (mw G h v.1 v.2.1 v.2.2) t.heap) A) ([.ref (h 0), .int (nI q), .int lett] : List Value).toArray s 0 0 A) (F0 m 32 ls []) := by
        intro n32m
        induction n32m with
        | zero => intro aa k g f5 f6 f7 haa hk hmu H locs ls hP hD hS hl; exact absurd hmu (Nat.not_lt_zero _)
        | succ n32m ih32 =>
          intro aa k g f5 f6 f7 haa hk hmu H locs ls hP hD hS hl
          refine lv_iload hx hb dX5_putNow_32 (lv_at hl 3 rfl) ?_
          refine lv_iload_n hx hb dX5_putNow_34 rfl (lv_at hl 2 rfl) ?_
          refine lv_icmp_le (tgt := 92) hx hb dX5_putNow_35 (by decide) (fun c35 => ?_) (fun c35 => ?_)
          · skip
            have n35 : k ≤ aa := (nI_leI (a := k) (b := aa) (by omega) (by omega)).mp c35
            refine lv_aload_n hx hb dX5_putNow_92 rfl (lv_at hl 0 rfl) ?_
            refine va_get (D := gD G) (ci := 5) (v := .ref (h 5)) (C := RX5) (T := TX5) (N := 38) hx hb hts hiX5 hown hK hP 0 rfl rfl 5 (by decide) k19 (fun _ h9 => h9) rfl dX5_putNow_93 ?_
            refine lv_iload_n hx hb dX5_putNow_96 rfl (lv_at hl 2 rfl) ?_
            refine lv_iload_n hx hb dX5_putNow_97 rfl (lv_at hl 1 rfl) ?_
            refine iastN (f := f5) (n := 120) (k := aa) hx hb hK hP hD hS 4 rfl rfl (by omega) dX5_putNow_98 (fun H locs hP hD hS => ?_)
            have hP : PP G (mw G h (oA (ln3 (oA u 26 g) f5 f6 f7) 5 (upd f5 aa lett)) lt sj) H := hP
            have hD : va_D A (mw G h (oA (ln3 (oA u 26 g) f5 f6 f7) 5 (upd f5 aa lett)) lt sj) := hD
            refine lv_aload_n hx hb dX5_putNow_99 rfl (lv_at hl 0 rfl) ?_
            refine va_get (D := gD G) (ci := 5) (v := .ref (h 6)) (C := RX5) (T := TX5) (N := 38) hx hb hts hiX5 hown hK hP 0 rfl rfl 6 (by decide) k22 (fun _ h9 => h9) rfl dX5_putNow_100 ?_
            refine lv_iload_n hx hb dX5_putNow_103 rfl (lv_at hl 2 rfl) ?_
            refine lv_aload_n hx hb dX5_putNow_104 rfl (lv_at hl 0 rfl) ?_
            refine va_get (D := gD G) (ci := 5) (v := .int ((oA (ln3 (oA u 26 g) f5 f6 f7) 5 (upd f5 aa lett)).1 0)) (C := RX5) (T := TX5) (N := 38) hx hb hts hiX5 hown hK hP 0 rfl rfl 0 (by decide) k91 (fun _ h9 => h9) rfl dX5_putNow_105 ?_
            refine topE hnv ?_
            refine iastN (f := f6) (n := 120) (k := aa) hx hb hK hP hD hS 5 rfl rfl (by omega) dX5_putNow_108 (fun H locs hP hD hS => ?_)
            have hP : PP G (mw G h (oA (oA (ln3 (oA u 26 g) f5 f6 f7) 5 (upd f5 aa lett)) 6 (upd f6 aa (nI nv))) lt sj) H := hP
            have hD : va_D A (mw G h (oA (oA (ln3 (oA u 26 g) f5 f6 f7) 5 (upd f5 aa lett)) 6 (upd f6 aa (nI nv))) lt sj) := hD
            refine lv_aload_n hx hb dX5_putNow_109 rfl (lv_at hl 0 rfl) ?_
            refine va_get (D := gD G) (ci := 5) (v := .ref (h 7)) (C := RX5) (T := TX5) (N := 38) hx hb hts hiX5 hown hK hP 0 rfl rfl 7 (by decide) k25 (fun _ h9 => h9) rfl dX5_putNow_110 ?_
            refine lv_iload_n hx hb dX5_putNow_113 rfl (lv_at hl 2 rfl) ?_
            refine lv_iconst (v := nI 0) hx hb dX5_putNow_114 (by decide) ?_
            refine iastN (f := f7) (n := 120) (k := aa) hx hb hK hP hD hS 6 rfl rfl (by omega) dX5_putNow_115 (fun H locs hP hD hS => ?_)
            have hP : PP G (mw G h (oA (oA (oA (ln3 (oA u 26 g) f5 f6 f7) 5 (upd f5 aa lett)) 6 (upd f6 aa (nI nv))) 7 (upd f7 aa (nI 0))) lt sj) H := hP
            have hD : va_D A (mw G h (oA (oA (oA (ln3 (oA u 26 g) f5 f6 f7) 5 (upd f5 aa lett)) 6 (upd f6 aa (nI nv))) 7 (upd f7 aa (nI 0))) lt sj) := hD
            refine lv_aload_n hx hb dX5_putNow_116 rfl (lv_at hl 0 rfl) ?_
            refine lv_dup hx hb dX5_putNow_117 rfl ?_
            refine va_get (D := gD G) (ci := 5) (v := .int ((oA (oA (oA (ln3 (oA u 26 g) f5 f6 f7) 5 (upd f5 aa lett)) 6 (upd f6 aa (nI nv))) 7 (upd f7 aa (nI 0))).1 4)) (C := RX5) (T := TX5) (N := 38) hx hb hts hiX5 hown hK hP 0 rfl rfl 4 (by decide) k175 (fun _ h9 => h9) rfl dX5_putNow_118 ?_
            refine topE hnl ?_
            refine lv_iconst (v := nI 1) hx hb dX5_putNow_121 (by decide) ?_
            refine lv_iadd hx hb dX5_putNow_122 ?_
            refine topE (y := nI (nl + 1)) (nI_add nl 1) ?_
            refine va_put (D := gD G) (ci := 5) (v := .int (nI (nl + 1))) (ty := .int) (C := RX5) (T := TX5) (N := 38) hx hb hts hiX5 tyX5 tyX5_ok nmX5 hown hK hP hD hS 0 rfl rfl 4 (by decide) k175 (fun _ h9 => h9) rfl (by decide +kernel) (rfl) (rfl) (Nat.le_of_ble_eq_true rfl) dX5_putNow_123 (fun H locs hP hD hS => ?_)
            have hP : PP G (mw G h (oI (oA (oA (oA (ln3 (oA u 26 g) f5 f6 f7) 5 (upd f5 aa lett)) 6 (upd f6 aa (nI nv))) 7 (upd f7 aa (nI 0))) 4 (nI (nl + 1))) lt sj) H := hP
            have hD : va_D A (mw G h (oI (oA (oA (oA (ln3 (oA u 26 g) f5 f6 f7) 5 (upd f5 aa lett)) 6 (upd f6 aa (nI nv))) 7 (upd f7 aa (nI 0))) 4 (nI (nl + 1))) lt sj) := hD
            refine lv_iload_n hx hb dX5_putNow_126 rfl (lv_at hl 2 rfl) ?_
            exact W.iret (v := nI aa) hx hb hr (fun t ht hW => ⟨⟨nI aa, (oI (oA (oA (oA (ln3 (oA u 26 g) f5 f6 f7) 5 (upd f5 aa lett)) 6 (upd f6 aa (nI nv))) 7 (upd f7 aa (nI 0))) 4 (nI (nl + 1)), lt, sj), rfl, ⟨g, _, _, _, congrArg (fun q => (oI q 4 (nI (nl + 1)), lt, sj)) (ln3_w _ _ _ _ _ _ _), aa, haa, rfl⟩, show PP G (mw G h (oI (oA (oA (oA (ln3 (oA u 26 g) f5 f6 f7) 5 (upd f5 aa lett)) 6 (upd f6 aa (nI nv))) 7 (upd f7 aa (nI 0))) 4 (nI (nl + 1))) lt sj) t.heap by rw [ht]; exact hP⟩, hS.F ht⟩) hS.2.2 dX5_putNow_127
          · skip
            have n35 : ¬ (k ≤ aa) := fun q9 => c35 ((nI_leI (a := k) (b := aa) (by omega) (by omega)).mpr q9)
            refine lv_aload_n hx hb dX5_putNow_38 rfl (lv_at hl 0 rfl) ?_
            refine va_get (D := gD G) (ci := 5) (v := .ref (h 5)) (C := RX5) (T := TX5) (N := 38) hx hb hts hiX5 hown hK hP 0 rfl rfl 5 (by decide) k19 (fun _ h9 => h9) rfl dX5_putNow_39 ?_
            refine lv_iload hx hb dX5_putNow_42 (lv_at hl 3 rfl) ?_
            refine lv_aload_n hx hb dX5_putNow_44 rfl (lv_at hl 0 rfl) ?_
            refine va_get (D := gD G) (ci := 5) (v := .ref (h 5)) (C := RX5) (T := TX5) (N := 38) hx hb hts hiX5 hown hK hP 0 rfl rfl 5 (by decide) k19 (fun _ h9 => h9) rfl dX5_putNow_45 ?_
            refine lv_iload hx hb dX5_putNow_48 (lv_at hl 3 rfl) ?_
            refine lv_iconst (v := nI 1) hx hb dX5_putNow_50 (by decide) ?_
            refine lv_isub hx hb dX5_putNow_51 ?_
            refine topE (y := nI (k - 1)) (pk_sub (by omega)) ?_
            refine ialdN (f := f5) (n := 120) (k := k - 1) hx hb hK hP 4 rfl rfl (by omega) dX5_putNow_52 ?_
            refine iastN (f := f5) (n := 120) (k := k) hx hb hK hP hD hS 4 rfl rfl (by omega) dX5_putNow_53 (fun H locs hP hD hS => ?_)
            have hP : PP G (mw G h (oA (ln3 (oA u 26 g) f5 f6 f7) 5 (upd f5 k (f5 (k - 1)))) lt sj) H := hP
            have hD : va_D A (mw G h (oA (ln3 (oA u 26 g) f5 f6 f7) 5 (upd f5 k (f5 (k - 1)))) lt sj) := hD
            refine lv_aload_n hx hb dX5_putNow_54 rfl (lv_at hl 0 rfl) ?_
            refine va_get (D := gD G) (ci := 5) (v := .ref (h 6)) (C := RX5) (T := TX5) (N := 38) hx hb hts hiX5 hown hK hP 0 rfl rfl 6 (by decide) k22 (fun _ h9 => h9) rfl dX5_putNow_55 ?_
            refine lv_iload hx hb dX5_putNow_58 (lv_at hl 3 rfl) ?_
            refine lv_aload_n hx hb dX5_putNow_60 rfl (lv_at hl 0 rfl) ?_
            refine va_get (D := gD G) (ci := 5) (v := .ref (h 6)) (C := RX5) (T := TX5) (N := 38) hx hb hts hiX5 hown hK hP 0 rfl rfl 6 (by decide) k22 (fun _ h9 => h9) rfl dX5_putNow_61 ?_
            refine lv_iload hx hb dX5_putNow_64 (lv_at hl 3 rfl) ?_
            refine lv_iconst (v := nI 1) hx hb dX5_putNow_66 (by decide) ?_
            refine lv_isub hx hb dX5_putNow_67 ?_
            refine topE (y := nI (k - 1)) (pk_sub (by omega)) ?_
            refine ialdN (f := f6) (n := 120) (k := k - 1) hx hb hK hP 5 rfl rfl (by omega) dX5_putNow_68 ?_
            refine iastN (f := f6) (n := 120) (k := k) hx hb hK hP hD hS 5 rfl rfl (by omega) dX5_putNow_69 (fun H locs hP hD hS => ?_)
            have hP : PP G (mw G h (oA (oA (ln3 (oA u 26 g) f5 f6 f7) 5 (upd f5 k (f5 (k - 1)))) 6 (upd f6 k (f6 (k - 1)))) lt sj) H := hP
            have hD : va_D A (mw G h (oA (oA (ln3 (oA u 26 g) f5 f6 f7) 5 (upd f5 k (f5 (k - 1)))) 6 (upd f6 k (f6 (k - 1)))) lt sj) := hD
            refine lv_aload_n hx hb dX5_putNow_70 rfl (lv_at hl 0 rfl) ?_
            refine va_get (D := gD G) (ci := 5) (v := .ref (h 7)) (C := RX5) (T := TX5) (N := 38) hx hb hts hiX5 hown hK hP 0 rfl rfl 7 (by decide) k25 (fun _ h9 => h9) rfl dX5_putNow_71 ?_
            refine lv_iload hx hb dX5_putNow_74 (lv_at hl 3 rfl) ?_
            refine lv_aload_n hx hb dX5_putNow_76 rfl (lv_at hl 0 rfl) ?_
            refine va_get (D := gD G) (ci := 5) (v := .ref (h 7)) (C := RX5) (T := TX5) (N := 38) hx hb hts hiX5 hown hK hP 0 rfl rfl 7 (by decide) k25 (fun _ h9 => h9) rfl dX5_putNow_77 ?_
            refine lv_iload hx hb dX5_putNow_80 (lv_at hl 3 rfl) ?_
            refine lv_iconst (v := nI 1) hx hb dX5_putNow_82 (by decide) ?_
            refine lv_isub hx hb dX5_putNow_83 ?_
            refine topE (y := nI (k - 1)) (pk_sub (by omega)) ?_
            refine ialdN (f := f7) (n := 120) (k := k - 1) hx hb hK hP 6 rfl rfl (by omega) dX5_putNow_84 ?_
            refine iastN (f := f7) (n := 120) (k := k) hx hb hK hP hD hS 6 rfl rfl (by omega) dX5_putNow_85 (fun H locs hP hD hS => ?_)
            have hP : PP G (mw G h (oA (oA (oA (ln3 (oA u 26 g) f5 f6 f7) 5 (upd f5 k (f5 (k - 1)))) 6 (upd f6 k (f6 (k - 1)))) 7 (upd f7 k (f7 (k - 1)))) lt sj) H := hP
            have hD : va_D A (mw G h (oA (oA (oA (ln3 (oA u 26 g) f5 f6 f7) 5 (upd f5 k (f5 (k - 1)))) 6 (upd f6 k (f6 (k - 1)))) 7 (upd f7 k (f7 (k - 1)))) lt sj) := hD
            refine lv_iinc (v := nI (k - 1)) (lv' := [(4, .int (nI (k - 1))), (0, .ref (h 0)), (2, .int lett), (3, .int (nI aa))]) hx hb dX5_putNow_86 hl (k := 3) rfl (nI_dec k (by omega)) (by decide) rfl (fun ls hl => ?_)
            refine lv_goto (tgt := 32) hx hb dX5_putNow_89 (by decide) ?_
            exact ih32 aa (k - 1) g (upd f5 k (f5 (k - 1))) (upd f6 k (f6 (k - 1))) (upd f7 k (f7 (k - 1))) (by first | assumption | omega) (by first | assumption | omega) (by omega) _ _ ls hP hD hS (lv_sub hl [1, 2, 3, 0] rfl)
      exact LP32 (nl + 1) (i20 + 1) nl g14 (u.2 5) (u.2 6) (u.2 7) (by first | assumption | omega) (by first | assumption | omega) (Nat.lt_succ_self _) _ _ ls hP hD hS (lv_sub hl [2, 4, 1, 0] rfl)
    · skip
      refine lv_iconst (v := nI 1) hx hb dX5_putNow_23 (by decide) ?_
      refine lv_iadd hx hb dX5_putNow_24 ?_
      refine topE (y := nI 0) (by decide) ?_
      refine lv_istore_n (lv' := [(3, .int (nI 0)), (0, .ref (h 0)), (1, .int (nI q)), (2, .int lett)]) hx hb dX5_putNow_25 rfl hl (by decide) rfl (fun ls hl => ?_)
      refine lv_aload_n hx hb dX5_putNow_26 rfl (lv_at hl 1 rfl) ?_
      refine va_get (D := gD G) (ci := 5) (v := .int (u.1 4)) (C := RX5) (T := TX5) (N := 38) hx hb hts hiX5 hown hK hP 0 rfl rfl 4 (by decide) k175 (fun _ h9 => h9) rfl dX5_putNow_27 ?_
      refine topE hnl ?_
      refine lv_istore (lv' := [(4, .int (nI nl)), (3, .int (nI 0)), (0, .ref (h 0)), (1, .int (nI q)), (2, .int lett)]) hx hb dX5_putNow_30 hl (by decide) rfl (fun ls hl => ?_)
      have LP32 : ∀ (n32m : Nat), ∀ (aa : Nat) (k : Nat) (g : Nat → Int32) (f5 : Nat → Int32) (f6 : Nat → Int32) (f7 : Nat → Int32) (haa : aa ≤ nl) (hk : k ≤ nl), (k < n32m) → ∀ (H : Heap) (locs : List Loc) (ls : Array Slot), PP G (mw G h (ln3 (oA u 26 g) f5 f6 f7) lt sj) H → va_D A (mw G h (ln3 (oA u 26 g) f5 f6 f7) lt sj) → va_S A s.heap H locs → lv_has ls 5 [(0, .ref (h 0)), (2, .int lett), (3, .int (nI aa)), (4, .int (nI k))] → W p l e (headSpec wsX5_putNow ({ frames := 3, cells := 0, slots := 0, locals := 67 })).room s m ([.ref (h 0), .int (nI q), .int lett] : List Value).toArray below meth c H locs 0 0 (MQ below (va_Qi (fun (r : Int32) (v : oS × Int64 × (Nat → Int64)) => ∃ g f5 f6 f7, v = (oI (ln3 (oA u 26 g) f5 f6 f7) 4 (nI (nl + 1)), lt, sj) ∧ ∃ a, a ≤ nl ∧ r = nI a) (fun v t => PP G (mw G h v.1 v.2.1 v.2.2) t.heap) A) ([.ref (h 0), .int (nI q), .int lett] : List Value).toArray s 0 0 A) (F0 m 32 ls []) := by
        intro n32m
        induction n32m with
        | zero => intro aa k g f5 f6 f7 haa hk hmu H locs ls hP hD hS hl; exact absurd hmu (Nat.not_lt_zero _)
        | succ n32m ih32 =>
          intro aa k g f5 f6 f7 haa hk hmu H locs ls hP hD hS hl
          refine lv_iload hx hb dX5_putNow_32 (lv_at hl 3 rfl) ?_
          refine lv_iload_n hx hb dX5_putNow_34 rfl (lv_at hl 2 rfl) ?_
          refine lv_icmp_le (tgt := 92) hx hb dX5_putNow_35 (by decide) (fun c35 => ?_) (fun c35 => ?_)
          · skip
            have n35 : k ≤ aa := (nI_leI (a := k) (b := aa) (by omega) (by omega)).mp c35
            refine lv_aload_n hx hb dX5_putNow_92 rfl (lv_at hl 0 rfl) ?_
            refine va_get (D := gD G) (ci := 5) (v := .ref (h 5)) (C := RX5) (T := TX5) (N := 38) hx hb hts hiX5 hown hK hP 0 rfl rfl 5 (by decide) k19 (fun _ h9 => h9) rfl dX5_putNow_93 ?_
            refine lv_iload_n hx hb dX5_putNow_96 rfl (lv_at hl 2 rfl) ?_
            refine lv_iload_n hx hb dX5_putNow_97 rfl (lv_at hl 1 rfl) ?_
            refine iastN (f := f5) (n := 120) (k := aa) hx hb hK hP hD hS 4 rfl rfl (by omega) dX5_putNow_98 (fun H locs hP hD hS => ?_)
            have hP : PP G (mw G h (oA (ln3 (oA u 26 g) f5 f6 f7) 5 (upd f5 aa lett)) lt sj) H := hP
            have hD : va_D A (mw G h (oA (ln3 (oA u 26 g) f5 f6 f7) 5 (upd f5 aa lett)) lt sj) := hD
            refine lv_aload_n hx hb dX5_putNow_99 rfl (lv_at hl 0 rfl) ?_
            refine va_get (D := gD G) (ci := 5) (v := .ref (h 6)) (C := RX5) (T := TX5) (N := 38) hx hb hts hiX5 hown hK hP 0 rfl rfl 6 (by decide) k22 (fun _ h9 => h9) rfl dX5_putNow_100 ?_
            refine lv_iload_n hx hb dX5_putNow_103 rfl (lv_at hl 2 rfl) ?_
            refine lv_aload_n hx hb dX5_putNow_104 rfl (lv_at hl 0 rfl) ?_
            refine va_get (D := gD G) (ci := 5) (v := .int ((oA (ln3 (oA u 26 g) f5 f6 f7) 5 (upd f5 aa lett)).1 0)) (C := RX5) (T := TX5) (N := 38) hx hb hts hiX5 hown hK hP 0 rfl rfl 0 (by decide) k91 (fun _ h9 => h9) rfl dX5_putNow_105 ?_
            refine topE hnv ?_
            refine iastN (f := f6) (n := 120) (k := aa) hx hb hK hP hD hS 5 rfl rfl (by omega) dX5_putNow_108 (fun H locs hP hD hS => ?_)
            have hP : PP G (mw G h (oA (oA (ln3 (oA u 26 g) f5 f6 f7) 5 (upd f5 aa lett)) 6 (upd f6 aa (nI nv))) lt sj) H := hP
            have hD : va_D A (mw G h (oA (oA (ln3 (oA u 26 g) f5 f6 f7) 5 (upd f5 aa lett)) 6 (upd f6 aa (nI nv))) lt sj) := hD
            refine lv_aload_n hx hb dX5_putNow_109 rfl (lv_at hl 0 rfl) ?_
            refine va_get (D := gD G) (ci := 5) (v := .ref (h 7)) (C := RX5) (T := TX5) (N := 38) hx hb hts hiX5 hown hK hP 0 rfl rfl 7 (by decide) k25 (fun _ h9 => h9) rfl dX5_putNow_110 ?_
            refine lv_iload_n hx hb dX5_putNow_113 rfl (lv_at hl 2 rfl) ?_
            refine lv_iconst (v := nI 0) hx hb dX5_putNow_114 (by decide) ?_
            refine iastN (f := f7) (n := 120) (k := aa) hx hb hK hP hD hS 6 rfl rfl (by omega) dX5_putNow_115 (fun H locs hP hD hS => ?_)
            have hP : PP G (mw G h (oA (oA (oA (ln3 (oA u 26 g) f5 f6 f7) 5 (upd f5 aa lett)) 6 (upd f6 aa (nI nv))) 7 (upd f7 aa (nI 0))) lt sj) H := hP
            have hD : va_D A (mw G h (oA (oA (oA (ln3 (oA u 26 g) f5 f6 f7) 5 (upd f5 aa lett)) 6 (upd f6 aa (nI nv))) 7 (upd f7 aa (nI 0))) lt sj) := hD
            refine lv_aload_n hx hb dX5_putNow_116 rfl (lv_at hl 0 rfl) ?_
            refine lv_dup hx hb dX5_putNow_117 rfl ?_
            refine va_get (D := gD G) (ci := 5) (v := .int ((oA (oA (oA (ln3 (oA u 26 g) f5 f6 f7) 5 (upd f5 aa lett)) 6 (upd f6 aa (nI nv))) 7 (upd f7 aa (nI 0))).1 4)) (C := RX5) (T := TX5) (N := 38) hx hb hts hiX5 hown hK hP 0 rfl rfl 4 (by decide) k175 (fun _ h9 => h9) rfl dX5_putNow_118 ?_
            refine topE hnl ?_
            refine lv_iconst (v := nI 1) hx hb dX5_putNow_121 (by decide) ?_
            refine lv_iadd hx hb dX5_putNow_122 ?_
            refine topE (y := nI (nl + 1)) (nI_add nl 1) ?_
            refine va_put (D := gD G) (ci := 5) (v := .int (nI (nl + 1))) (ty := .int) (C := RX5) (T := TX5) (N := 38) hx hb hts hiX5 tyX5 tyX5_ok nmX5 hown hK hP hD hS 0 rfl rfl 4 (by decide) k175 (fun _ h9 => h9) rfl (by decide +kernel) (rfl) (rfl) (Nat.le_of_ble_eq_true rfl) dX5_putNow_123 (fun H locs hP hD hS => ?_)
            have hP : PP G (mw G h (oI (oA (oA (oA (ln3 (oA u 26 g) f5 f6 f7) 5 (upd f5 aa lett)) 6 (upd f6 aa (nI nv))) 7 (upd f7 aa (nI 0))) 4 (nI (nl + 1))) lt sj) H := hP
            have hD : va_D A (mw G h (oI (oA (oA (oA (ln3 (oA u 26 g) f5 f6 f7) 5 (upd f5 aa lett)) 6 (upd f6 aa (nI nv))) 7 (upd f7 aa (nI 0))) 4 (nI (nl + 1))) lt sj) := hD
            refine lv_iload_n hx hb dX5_putNow_126 rfl (lv_at hl 2 rfl) ?_
            exact W.iret (v := nI aa) hx hb hr (fun t ht hW => ⟨⟨nI aa, (oI (oA (oA (oA (ln3 (oA u 26 g) f5 f6 f7) 5 (upd f5 aa lett)) 6 (upd f6 aa (nI nv))) 7 (upd f7 aa (nI 0))) 4 (nI (nl + 1)), lt, sj), rfl, ⟨g, _, _, _, congrArg (fun q => (oI q 4 (nI (nl + 1)), lt, sj)) (ln3_w _ _ _ _ _ _ _), aa, haa, rfl⟩, show PP G (mw G h (oI (oA (oA (oA (ln3 (oA u 26 g) f5 f6 f7) 5 (upd f5 aa lett)) 6 (upd f6 aa (nI nv))) 7 (upd f7 aa (nI 0))) 4 (nI (nl + 1))) lt sj) t.heap by rw [ht]; exact hP⟩, hS.F ht⟩) hS.2.2 dX5_putNow_127
          · skip
            have n35 : ¬ (k ≤ aa) := fun q9 => c35 ((nI_leI (a := k) (b := aa) (by omega) (by omega)).mpr q9)
            refine lv_aload_n hx hb dX5_putNow_38 rfl (lv_at hl 0 rfl) ?_
            refine va_get (D := gD G) (ci := 5) (v := .ref (h 5)) (C := RX5) (T := TX5) (N := 38) hx hb hts hiX5 hown hK hP 0 rfl rfl 5 (by decide) k19 (fun _ h9 => h9) rfl dX5_putNow_39 ?_
            refine lv_iload hx hb dX5_putNow_42 (lv_at hl 3 rfl) ?_
            refine lv_aload_n hx hb dX5_putNow_44 rfl (lv_at hl 0 rfl) ?_
            refine va_get (D := gD G) (ci := 5) (v := .ref (h 5)) (C := RX5) (T := TX5) (N := 38) hx hb hts hiX5 hown hK hP 0 rfl rfl 5 (by decide) k19 (fun _ h9 => h9) rfl dX5_putNow_45 ?_
            refine lv_iload hx hb dX5_putNow_48 (lv_at hl 3 rfl) ?_
            refine lv_iconst (v := nI 1) hx hb dX5_putNow_50 (by decide) ?_
            refine lv_isub hx hb dX5_putNow_51 ?_
            refine topE (y := nI (k - 1)) (pk_sub (by omega)) ?_
            refine ialdN (f := f5) (n := 120) (k := k - 1) hx hb hK hP 4 rfl rfl (by omega) dX5_putNow_52 ?_
            refine iastN (f := f5) (n := 120) (k := k) hx hb hK hP hD hS 4 rfl rfl (by omega) dX5_putNow_53 (fun H locs hP hD hS => ?_)
            have hP : PP G (mw G h (oA (ln3 (oA u 26 g) f5 f6 f7) 5 (upd f5 k (f5 (k - 1)))) lt sj) H := hP
            have hD : va_D A (mw G h (oA (ln3 (oA u 26 g) f5 f6 f7) 5 (upd f5 k (f5 (k - 1)))) lt sj) := hD
            refine lv_aload_n hx hb dX5_putNow_54 rfl (lv_at hl 0 rfl) ?_
            refine va_get (D := gD G) (ci := 5) (v := .ref (h 6)) (C := RX5) (T := TX5) (N := 38) hx hb hts hiX5 hown hK hP 0 rfl rfl 6 (by decide) k22 (fun _ h9 => h9) rfl dX5_putNow_55 ?_
            refine lv_iload hx hb dX5_putNow_58 (lv_at hl 3 rfl) ?_
            refine lv_aload_n hx hb dX5_putNow_60 rfl (lv_at hl 0 rfl) ?_
            refine va_get (D := gD G) (ci := 5) (v := .ref (h 6)) (C := RX5) (T := TX5) (N := 38) hx hb hts hiX5 hown hK hP 0 rfl rfl 6 (by decide) k22 (fun _ h9 => h9) rfl dX5_putNow_61 ?_
            refine lv_iload hx hb dX5_putNow_64 (lv_at hl 3 rfl) ?_
            refine lv_iconst (v := nI 1) hx hb dX5_putNow_66 (by decide) ?_
            refine lv_isub hx hb dX5_putNow_67 ?_
            refine topE (y := nI (k - 1)) (pk_sub (by omega)) ?_
            refine ialdN (f := f6) (n := 120) (k := k - 1) hx hb hK hP 5 rfl rfl (by omega) dX5_putNow_68 ?_
            refine iastN (f := f6) (n := 120) (k := k) hx hb hK hP hD hS 5 rfl rfl (by omega) dX5_putNow_69 (fun H locs hP hD hS => ?_)
            have hP : PP G (mw G h (oA (oA (ln3 (oA u 26 g) f5 f6 f7) 5 (upd f5 k (f5 (k - 1)))) 6 (upd f6 k (f6 (k - 1)))) lt sj) H := hP
            have hD : va_D A (mw G h (oA (oA (ln3 (oA u 26 g) f5 f6 f7) 5 (upd f5 k (f5 (k - 1)))) 6 (upd f6 k (f6 (k - 1)))) lt sj) := hD
            refine lv_aload_n hx hb dX5_putNow_70 rfl (lv_at hl 0 rfl) ?_
            refine va_get (D := gD G) (ci := 5) (v := .ref (h 7)) (C := RX5) (T := TX5) (N := 38) hx hb hts hiX5 hown hK hP 0 rfl rfl 7 (by decide) k25 (fun _ h9 => h9) rfl dX5_putNow_71 ?_
            refine lv_iload hx hb dX5_putNow_74 (lv_at hl 3 rfl) ?_
            refine lv_aload_n hx hb dX5_putNow_76 rfl (lv_at hl 0 rfl) ?_
            refine va_get (D := gD G) (ci := 5) (v := .ref (h 7)) (C := RX5) (T := TX5) (N := 38) hx hb hts hiX5 hown hK hP 0 rfl rfl 7 (by decide) k25 (fun _ h9 => h9) rfl dX5_putNow_77 ?_
            refine lv_iload hx hb dX5_putNow_80 (lv_at hl 3 rfl) ?_
            refine lv_iconst (v := nI 1) hx hb dX5_putNow_82 (by decide) ?_
            refine lv_isub hx hb dX5_putNow_83 ?_
            refine topE (y := nI (k - 1)) (pk_sub (by omega)) ?_
            refine ialdN (f := f7) (n := 120) (k := k - 1) hx hb hK hP 6 rfl rfl (by omega) dX5_putNow_84 ?_
            refine iastN (f := f7) (n := 120) (k := k) hx hb hK hP hD hS 6 rfl rfl (by omega) dX5_putNow_85 (fun H locs hP hD hS => ?_)
            have hP : PP G (mw G h (oA (oA (oA (ln3 (oA u 26 g) f5 f6 f7) 5 (upd f5 k (f5 (k - 1)))) 6 (upd f6 k (f6 (k - 1)))) 7 (upd f7 k (f7 (k - 1)))) lt sj) H := hP
            have hD : va_D A (mw G h (oA (oA (oA (ln3 (oA u 26 g) f5 f6 f7) 5 (upd f5 k (f5 (k - 1)))) 6 (upd f6 k (f6 (k - 1)))) 7 (upd f7 k (f7 (k - 1)))) lt sj) := hD
            refine lv_iinc (v := nI (k - 1)) (lv' := [(4, .int (nI (k - 1))), (0, .ref (h 0)), (2, .int lett), (3, .int (nI aa))]) hx hb dX5_putNow_86 hl (k := 3) rfl (nI_dec k (by omega)) (by decide) rfl (fun ls hl => ?_)
            refine lv_goto (tgt := 32) hx hb dX5_putNow_89 (by decide) ?_
            exact ih32 aa (k - 1) g (upd f5 k (f5 (k - 1))) (upd f6 k (f6 (k - 1))) (upd f7 k (f7 (k - 1))) (by first | assumption | omega) (by first | assumption | omega) (by omega) _ _ ls hP hD hS (lv_sub hl [1, 2, 3, 0] rfl)
      exact LP32 (nl + 1) 0 nl g14 (u.2 5) (u.2 6) (u.2 7) (by first | assumption | omega) (by first | assumption | omega) (Nat.lt_succ_self _) _ _ ls hP hD hS (lv_sub hl [2, 4, 1, 0] rfl)
  · skip
    have n1 : q = 0 := (nI_eq (a := q) (b := 0) (by omega) (by omega)).mp c1
    have hP := mw_self26 hP
    have hD : va_D A (mw G h (oA u 26 (u.2 26)) lt sj) := mw_self26D hD
    refine lv_iconst (v := nI 0) hx hb dX5_putNow_4 (by decide) ?_
    refine lv_goto (tgt := 25) hx hb dX5_putNow_5 (by decide) ?_
    refine lv_istore_n (lv' := [(3, .int (nI 0)), (0, .ref (h 0)), (1, .int (nI q)), (2, .int lett)]) hx hb dX5_putNow_25 rfl hl (by decide) rfl (fun ls hl => ?_)
    refine lv_aload_n hx hb dX5_putNow_26 rfl (lv_at hl 1 rfl) ?_
    refine va_get (D := gD G) (ci := 5) (v := .int (u.1 4)) (C := RX5) (T := TX5) (N := 38) hx hb hts hiX5 hown hK hP 0 rfl rfl 4 (by decide) k175 (fun _ h9 => h9) rfl dX5_putNow_27 ?_
    refine topE hnl ?_
    refine lv_istore (lv' := [(4, .int (nI nl)), (3, .int (nI 0)), (0, .ref (h 0)), (1, .int (nI q)), (2, .int lett)]) hx hb dX5_putNow_30 hl (by decide) rfl (fun ls hl => ?_)
    have LP32 : ∀ (n32m : Nat), ∀ (aa : Nat) (k : Nat) (g : Nat → Int32) (f5 : Nat → Int32) (f6 : Nat → Int32) (f7 : Nat → Int32) (haa : aa ≤ nl) (hk : k ≤ nl), (k < n32m) → ∀ (H : Heap) (locs : List Loc) (ls : Array Slot), PP G (mw G h (ln3 (oA u 26 g) f5 f6 f7) lt sj) H → va_D A (mw G h (ln3 (oA u 26 g) f5 f6 f7) lt sj) → va_S A s.heap H locs → lv_has ls 5 [(0, .ref (h 0)), (2, .int lett), (3, .int (nI aa)), (4, .int (nI k))] → W p l e (headSpec wsX5_putNow ({ frames := 3, cells := 0, slots := 0, locals := 67 })).room s m ([.ref (h 0), .int (nI q), .int lett] : List Value).toArray below meth c H locs 0 0 (MQ below (va_Qi (fun (r : Int32) (v : oS × Int64 × (Nat → Int64)) => ∃ g f5 f6 f7, v = (oI (ln3 (oA u 26 g) f5 f6 f7) 4 (nI (nl + 1)), lt, sj) ∧ ∃ a, a ≤ nl ∧ r = nI a) (fun v t => PP G (mw G h v.1 v.2.1 v.2.2) t.heap) A) ([.ref (h 0), .int (nI q), .int lett] : List Value).toArray s 0 0 A) (F0 m 32 ls []) := by
      intro n32m
      induction n32m with
      | zero => intro aa k g f5 f6 f7 haa hk hmu H locs ls hP hD hS hl; exact absurd hmu (Nat.not_lt_zero _)
      | succ n32m ih32 =>
        intro aa k g f5 f6 f7 haa hk hmu H locs ls hP hD hS hl
        refine lv_iload hx hb dX5_putNow_32 (lv_at hl 3 rfl) ?_
        refine lv_iload_n hx hb dX5_putNow_34 rfl (lv_at hl 2 rfl) ?_
        refine lv_icmp_le (tgt := 92) hx hb dX5_putNow_35 (by decide) (fun c35 => ?_) (fun c35 => ?_)
        · skip
          have n35 : k ≤ aa := (nI_leI (a := k) (b := aa) (by omega) (by omega)).mp c35
          refine lv_aload_n hx hb dX5_putNow_92 rfl (lv_at hl 0 rfl) ?_
          refine va_get (D := gD G) (ci := 5) (v := .ref (h 5)) (C := RX5) (T := TX5) (N := 38) hx hb hts hiX5 hown hK hP 0 rfl rfl 5 (by decide) k19 (fun _ h9 => h9) rfl dX5_putNow_93 ?_
          refine lv_iload_n hx hb dX5_putNow_96 rfl (lv_at hl 2 rfl) ?_
          refine lv_iload_n hx hb dX5_putNow_97 rfl (lv_at hl 1 rfl) ?_
          refine iastN (f := f5) (n := 120) (k := aa) hx hb hK hP hD hS 4 rfl rfl (by omega) dX5_putNow_98 (fun H locs hP hD hS => ?_)
          have hP : PP G (mw G h (oA (ln3 (oA u 26 g) f5 f6 f7) 5 (upd f5 aa lett)) lt sj) H := hP
          have hD : va_D A (mw G h (oA (ln3 (oA u 26 g) f5 f6 f7) 5 (upd f5 aa lett)) lt sj) := hD
          refine lv_aload_n hx hb dX5_putNow_99 rfl (lv_at hl 0 rfl) ?_
          refine va_get (D := gD G) (ci := 5) (v := .ref (h 6)) (C := RX5) (T := TX5) (N := 38) hx hb hts hiX5 hown hK hP 0 rfl rfl 6 (by decide) k22 (fun _ h9 => h9) rfl dX5_putNow_100 ?_
          refine lv_iload_n hx hb dX5_putNow_103 rfl (lv_at hl 2 rfl) ?_
          refine lv_aload_n hx hb dX5_putNow_104 rfl (lv_at hl 0 rfl) ?_
          refine va_get (D := gD G) (ci := 5) (v := .int ((oA (ln3 (oA u 26 g) f5 f6 f7) 5 (upd f5 aa lett)).1 0)) (C := RX5) (T := TX5) (N := 38) hx hb hts hiX5 hown hK hP 0 rfl rfl 0 (by decide) k91 (fun _ h9 => h9) rfl dX5_putNow_105 ?_
          refine topE hnv ?_
          refine iastN (f := f6) (n := 120) (k := aa) hx hb hK hP hD hS 5 rfl rfl (by omega) dX5_putNow_108 (fun H locs hP hD hS => ?_)
          have hP : PP G (mw G h (oA (oA (ln3 (oA u 26 g) f5 f6 f7) 5 (upd f5 aa lett)) 6 (upd f6 aa (nI nv))) lt sj) H := hP
          have hD : va_D A (mw G h (oA (oA (ln3 (oA u 26 g) f5 f6 f7) 5 (upd f5 aa lett)) 6 (upd f6 aa (nI nv))) lt sj) := hD
          refine lv_aload_n hx hb dX5_putNow_109 rfl (lv_at hl 0 rfl) ?_
          refine va_get (D := gD G) (ci := 5) (v := .ref (h 7)) (C := RX5) (T := TX5) (N := 38) hx hb hts hiX5 hown hK hP 0 rfl rfl 7 (by decide) k25 (fun _ h9 => h9) rfl dX5_putNow_110 ?_
          refine lv_iload_n hx hb dX5_putNow_113 rfl (lv_at hl 2 rfl) ?_
          refine lv_iconst (v := nI 0) hx hb dX5_putNow_114 (by decide) ?_
          refine iastN (f := f7) (n := 120) (k := aa) hx hb hK hP hD hS 6 rfl rfl (by omega) dX5_putNow_115 (fun H locs hP hD hS => ?_)
          have hP : PP G (mw G h (oA (oA (oA (ln3 (oA u 26 g) f5 f6 f7) 5 (upd f5 aa lett)) 6 (upd f6 aa (nI nv))) 7 (upd f7 aa (nI 0))) lt sj) H := hP
          have hD : va_D A (mw G h (oA (oA (oA (ln3 (oA u 26 g) f5 f6 f7) 5 (upd f5 aa lett)) 6 (upd f6 aa (nI nv))) 7 (upd f7 aa (nI 0))) lt sj) := hD
          refine lv_aload_n hx hb dX5_putNow_116 rfl (lv_at hl 0 rfl) ?_
          refine lv_dup hx hb dX5_putNow_117 rfl ?_
          refine va_get (D := gD G) (ci := 5) (v := .int ((oA (oA (oA (ln3 (oA u 26 g) f5 f6 f7) 5 (upd f5 aa lett)) 6 (upd f6 aa (nI nv))) 7 (upd f7 aa (nI 0))).1 4)) (C := RX5) (T := TX5) (N := 38) hx hb hts hiX5 hown hK hP 0 rfl rfl 4 (by decide) k175 (fun _ h9 => h9) rfl dX5_putNow_118 ?_
          refine topE hnl ?_
          refine lv_iconst (v := nI 1) hx hb dX5_putNow_121 (by decide) ?_
          refine lv_iadd hx hb dX5_putNow_122 ?_
          refine topE (y := nI (nl + 1)) (nI_add nl 1) ?_
          refine va_put (D := gD G) (ci := 5) (v := .int (nI (nl + 1))) (ty := .int) (C := RX5) (T := TX5) (N := 38) hx hb hts hiX5 tyX5 tyX5_ok nmX5 hown hK hP hD hS 0 rfl rfl 4 (by decide) k175 (fun _ h9 => h9) rfl (by decide +kernel) (rfl) (rfl) (Nat.le_of_ble_eq_true rfl) dX5_putNow_123 (fun H locs hP hD hS => ?_)
          have hP : PP G (mw G h (oI (oA (oA (oA (ln3 (oA u 26 g) f5 f6 f7) 5 (upd f5 aa lett)) 6 (upd f6 aa (nI nv))) 7 (upd f7 aa (nI 0))) 4 (nI (nl + 1))) lt sj) H := hP
          have hD : va_D A (mw G h (oI (oA (oA (oA (ln3 (oA u 26 g) f5 f6 f7) 5 (upd f5 aa lett)) 6 (upd f6 aa (nI nv))) 7 (upd f7 aa (nI 0))) 4 (nI (nl + 1))) lt sj) := hD
          refine lv_iload_n hx hb dX5_putNow_126 rfl (lv_at hl 2 rfl) ?_
          exact W.iret (v := nI aa) hx hb hr (fun t ht hW => ⟨⟨nI aa, (oI (oA (oA (oA (ln3 (oA u 26 g) f5 f6 f7) 5 (upd f5 aa lett)) 6 (upd f6 aa (nI nv))) 7 (upd f7 aa (nI 0))) 4 (nI (nl + 1)), lt, sj), rfl, ⟨g, _, _, _, congrArg (fun q => (oI q 4 (nI (nl + 1)), lt, sj)) (ln3_w _ _ _ _ _ _ _), aa, haa, rfl⟩, show PP G (mw G h (oI (oA (oA (oA (ln3 (oA u 26 g) f5 f6 f7) 5 (upd f5 aa lett)) 6 (upd f6 aa (nI nv))) 7 (upd f7 aa (nI 0))) 4 (nI (nl + 1))) lt sj) t.heap by rw [ht]; exact hP⟩, hS.F ht⟩) hS.2.2 dX5_putNow_127
        · skip
          have n35 : ¬ (k ≤ aa) := fun q9 => c35 ((nI_leI (a := k) (b := aa) (by omega) (by omega)).mpr q9)
          refine lv_aload_n hx hb dX5_putNow_38 rfl (lv_at hl 0 rfl) ?_
          refine va_get (D := gD G) (ci := 5) (v := .ref (h 5)) (C := RX5) (T := TX5) (N := 38) hx hb hts hiX5 hown hK hP 0 rfl rfl 5 (by decide) k19 (fun _ h9 => h9) rfl dX5_putNow_39 ?_
          refine lv_iload hx hb dX5_putNow_42 (lv_at hl 3 rfl) ?_
          refine lv_aload_n hx hb dX5_putNow_44 rfl (lv_at hl 0 rfl) ?_
          refine va_get (D := gD G) (ci := 5) (v := .ref (h 5)) (C := RX5) (T := TX5) (N := 38) hx hb hts hiX5 hown hK hP 0 rfl rfl 5 (by decide) k19 (fun _ h9 => h9) rfl dX5_putNow_45 ?_
          refine lv_iload hx hb dX5_putNow_48 (lv_at hl 3 rfl) ?_
          refine lv_iconst (v := nI 1) hx hb dX5_putNow_50 (by decide) ?_
          refine lv_isub hx hb dX5_putNow_51 ?_
          refine topE (y := nI (k - 1)) (pk_sub (by omega)) ?_
          refine ialdN (f := f5) (n := 120) (k := k - 1) hx hb hK hP 4 rfl rfl (by omega) dX5_putNow_52 ?_
          refine iastN (f := f5) (n := 120) (k := k) hx hb hK hP hD hS 4 rfl rfl (by omega) dX5_putNow_53 (fun H locs hP hD hS => ?_)
          have hP : PP G (mw G h (oA (ln3 (oA u 26 g) f5 f6 f7) 5 (upd f5 k (f5 (k - 1)))) lt sj) H := hP
          have hD : va_D A (mw G h (oA (ln3 (oA u 26 g) f5 f6 f7) 5 (upd f5 k (f5 (k - 1)))) lt sj) := hD
          refine lv_aload_n hx hb dX5_putNow_54 rfl (lv_at hl 0 rfl) ?_
          refine va_get (D := gD G) (ci := 5) (v := .ref (h 6)) (C := RX5) (T := TX5) (N := 38) hx hb hts hiX5 hown hK hP 0 rfl rfl 6 (by decide) k22 (fun _ h9 => h9) rfl dX5_putNow_55 ?_
          refine lv_iload hx hb dX5_putNow_58 (lv_at hl 3 rfl) ?_
          refine lv_aload_n hx hb dX5_putNow_60 rfl (lv_at hl 0 rfl) ?_
          refine va_get (D := gD G) (ci := 5) (v := .ref (h 6)) (C := RX5) (T := TX5) (N := 38) hx hb hts hiX5 hown hK hP 0 rfl rfl 6 (by decide) k22 (fun _ h9 => h9) rfl dX5_putNow_61 ?_
          refine lv_iload hx hb dX5_putNow_64 (lv_at hl 3 rfl) ?_
          refine lv_iconst (v := nI 1) hx hb dX5_putNow_66 (by decide) ?_
          refine lv_isub hx hb dX5_putNow_67 ?_
          refine topE (y := nI (k - 1)) (pk_sub (by omega)) ?_
          refine ialdN (f := f6) (n := 120) (k := k - 1) hx hb hK hP 5 rfl rfl (by omega) dX5_putNow_68 ?_
          refine iastN (f := f6) (n := 120) (k := k) hx hb hK hP hD hS 5 rfl rfl (by omega) dX5_putNow_69 (fun H locs hP hD hS => ?_)
          have hP : PP G (mw G h (oA (oA (ln3 (oA u 26 g) f5 f6 f7) 5 (upd f5 k (f5 (k - 1)))) 6 (upd f6 k (f6 (k - 1)))) lt sj) H := hP
          have hD : va_D A (mw G h (oA (oA (ln3 (oA u 26 g) f5 f6 f7) 5 (upd f5 k (f5 (k - 1)))) 6 (upd f6 k (f6 (k - 1)))) lt sj) := hD
          refine lv_aload_n hx hb dX5_putNow_70 rfl (lv_at hl 0 rfl) ?_
          refine va_get (D := gD G) (ci := 5) (v := .ref (h 7)) (C := RX5) (T := TX5) (N := 38) hx hb hts hiX5 hown hK hP 0 rfl rfl 7 (by decide) k25 (fun _ h9 => h9) rfl dX5_putNow_71 ?_
          refine lv_iload hx hb dX5_putNow_74 (lv_at hl 3 rfl) ?_
          refine lv_aload_n hx hb dX5_putNow_76 rfl (lv_at hl 0 rfl) ?_
          refine va_get (D := gD G) (ci := 5) (v := .ref (h 7)) (C := RX5) (T := TX5) (N := 38) hx hb hts hiX5 hown hK hP 0 rfl rfl 7 (by decide) k25 (fun _ h9 => h9) rfl dX5_putNow_77 ?_
          refine lv_iload hx hb dX5_putNow_80 (lv_at hl 3 rfl) ?_
          refine lv_iconst (v := nI 1) hx hb dX5_putNow_82 (by decide) ?_
          refine lv_isub hx hb dX5_putNow_83 ?_
          refine topE (y := nI (k - 1)) (pk_sub (by omega)) ?_
          refine ialdN (f := f7) (n := 120) (k := k - 1) hx hb hK hP 6 rfl rfl (by omega) dX5_putNow_84 ?_
          refine iastN (f := f7) (n := 120) (k := k) hx hb hK hP hD hS 6 rfl rfl (by omega) dX5_putNow_85 (fun H locs hP hD hS => ?_)
          have hP : PP G (mw G h (oA (oA (oA (ln3 (oA u 26 g) f5 f6 f7) 5 (upd f5 k (f5 (k - 1)))) 6 (upd f6 k (f6 (k - 1)))) 7 (upd f7 k (f7 (k - 1)))) lt sj) H := hP
          have hD : va_D A (mw G h (oA (oA (oA (ln3 (oA u 26 g) f5 f6 f7) 5 (upd f5 k (f5 (k - 1)))) 6 (upd f6 k (f6 (k - 1)))) 7 (upd f7 k (f7 (k - 1)))) lt sj) := hD
          refine lv_iinc (v := nI (k - 1)) (lv' := [(4, .int (nI (k - 1))), (0, .ref (h 0)), (2, .int lett), (3, .int (nI aa))]) hx hb dX5_putNow_86 hl (k := 3) rfl (nI_dec k (by omega)) (by decide) rfl (fun ls hl => ?_)
          refine lv_goto (tgt := 32) hx hb dX5_putNow_89 (by decide) ?_
          exact ih32 aa (k - 1) g (upd f5 k (f5 (k - 1))) (upd f6 k (f6 (k - 1))) (upd f7 k (f7 (k - 1))) (by first | assumption | omega) (by first | assumption | omega) (by omega) _ _ ls hP hD hS (lv_sub hl [1, 2, 3, 0] rfl)
    exact LP32 (nl + 1) 0 nl (u.2 26) (u.2 5) (u.2 6) (u.2 7) (by first | assumption | omega) (by first | assumption | omega) (Nat.lt_succ_self _) _ _ ls hP hD hS (lv_sub hl [2, 4, 1, 0] rfl)
set_option maxHeartbeats 1000000 in
set_option maxRecDepth 100000 in
theorem mt_X5_put (l : Launch) (G : gG) (h : Nat → Nat) (sz : Nat) (u : oS) (lt : Int64) (sj : Nat → Int64) (i : Int32) (lett : Int32) (nv nl nt nh : Nat) (hI : MIx u nv nl nt nh) : Met l yX5_put wsX5_put ({ frames := 4, cells := 0, slots := 0, locals := 91 }) (preW G (mw G h u lt sj) sz [.ref (h 0), .int i, .int lett]) (va_Qi (fun (r : Int32) (v : oS × Int64 × (Nat → Int64)) => MIk u v.1) (fun v t => PP G (mw G h v.1 v.2.1 v.2.2) t.heap) (va_A (mw G h u lt sj) sz)) 0 0 (va_A (mw G h u lt sj) sz) := by
  refine Met.ofW (cc := cX5_put) (maxL := 3) (ret := (some .int)) (by decide) rfl ?_
  intro p e s m args below meth c s₁ B hml hv
  obtain ⟨ha, hsz, hP, hK, hN, hD0⟩ := hv
  subst ha
  have hx := B.exec
  have hb := B.bytes
  have hr := B.returns
  have hts := atoms_spec (ws := wsX5_put) B.pre
  have hown : s.vm.findClass RX5 = some m.cls := findClass_of_methodNamed B.named
  have hlocks := B.notSynchronized
  subst hsz
  have hD := hD0.self (sz := s.heap.size)
  generalize hAe : va_A (mw G h u lt sj) s.heap.size = A at hD ⊢
  have hA : ∀ q : Nat, s.heap.size ≤ q → A q := fun q h => by rw [← hAe]; exact Or.inr h
  clear hAe hD0
  have hS : va_S A s.heap s.heap [] := va_S.rf
  have hiX5 : ∀ w ∈ wsX50, w ∈ wsX5_put := by decide +kernel
  have k178 := hts (.fieldLink RX5 178 "WovenHistoryModel" "isOpen" "Z") (List.mem_of_getElem? (i := 4) rfl)
  have k175 := hts (.fieldLink RX5 175 "WovenHistoryModel" "lines" "I") (List.mem_of_getElem? (i := 6) rfl)
  have hl := lv_entry ([.ref (h 0), .int i, .int lett]) (n := 3) (Nat.le_of_ble_eq_true rfl)
  rw [lg_entry_eq]
  generalize (lg_sl ([.ref (h 0), .int i, .int lett]) ++ List.replicate (3 - (lg_sl ([.ref (h 0), .int i, .int lett])).length) Slot.unset).toArray = ls at hl ⊢
  have hl : lv_has ls 3 [(0, .ref (h 0)), (1, .int i), (2, .int lett)] := hl
  have hI0 := hI
  obtain ⟨hnv, hnl, hnt, hnh, hnv24, hnl120, hnt240, hnh120, hop, hopn, hparV, hsz4, himg⟩ := hI
  refine lv_iload_n hx hb dX5_put_0 rfl (lv_at hl 1 rfl) ?_
  refine lv_if_lt (tgt := 18) hx hb dX5_put_1 (by decide) (fun c1 => ?_) (fun c1 => ?_)
  · skip
    refine lv_ldc (v := (-1000000002 : Int32)) hx hb hown (hts (.constant RX5 100 (-1000000002)) (List.mem_of_getElem? (i := 3) rfl)) dX5_put_18 ?_
    exact W.iret (v := (-1000000002 : Int32)) hx hb hr (fun t ht hW => ⟨⟨(-1000000002 : Int32), (u, lt, sj), rfl, ⟨⟨nv, nl, nt, nh, hI0⟩, ⟨rfl, rfl, rfl⟩, rfl, rfl⟩, show PP G (mw G h u lt sj) t.heap by rw [ht]; exact hP⟩, hS.F ht⟩) hS.2.2 dX5_put_20
  · skip
    obtain ⟨i1, hi1, rfl⟩ := nI_of c1
    refine lv_iload_n hx hb dX5_put_4 rfl (lv_at hl 2 rfl) ?_
    refine lv_i2l (v := lett.toInt64) hx hb dX5_put_5 rfl ?_
    refine lv_ldc2 (v := 65) hx hb hown (hts (.constantLong RX5 160 (65)) (List.mem_of_getElem? (i := 1) rfl)) dX5_put_6 ?_
    refine lv_ldc2 (v := 90) hx hb hown (hts (.constantLong RX5 162 (90)) (List.mem_of_getElem? (i := 2) rfl)) dX5_put_9 ?_
    refine cSi (As := [.long lett.toInt64, .long 65, .long 90]) (rest := []) ⟨hx, hb, hml, hown, hts⟩ (mt_X5_in l lett.toInt64 65 90) (va_cwS 3 hts gX5_put_X5_in rfl rfl rfl (by decide +kernel) ⟨Nat.le_of_ble_eq_true rfl, Nat.le_of_ble_eq_true rfl⟩) rfl hl.1 rfl (Nat.le_of_ble_eq_true rfl) ⟨Nat.zero_le _, Nat.zero_le _⟩ dX5_put_12 (fun r12 hw12 => ?_)
    rcases hw12 with ⟨rfl, ha12, hb12⟩ | ⟨rfl, hn12⟩
    · skip
      refine lv_if_ne (tgt := 21) hx hb dX5_put_15 (by decide) (fun _ => ?_) (fun c9 => absurd c9 (by decide))
      refine lv_aload_n hx hb dX5_put_21 rfl (lv_at hl 0 rfl) ?_
      refine va_get (D := gD G) (ci := 5) (v := .int (u.1 8)) (C := RX5) (T := TX5) (N := 38) hx hb hts hiX5 hown hK hP 0 rfl rfl 8 (by decide) k178 (fun _ h9 => h9) rfl dX5_put_22 ?_
      refine lv_if_eq (tgt := 36) hx hb dX5_put_25 (by decide) (fun c25 => ?_) (fun c25 => ?_)
      · skip
        refine lv_ldc (v := (-1000000003 : Int32)) hx hb hown (hts (.constant RX5 225 (-1000000003)) (List.mem_of_getElem? (i := 5) rfl)) dX5_put_36 ?_
        exact W.iret (v := (-1000000003 : Int32)) hx hb hr (fun t ht hW => ⟨⟨(-1000000003 : Int32), (u, lt, sj), rfl, ⟨⟨nv, nl, nt, nh, hI0⟩, ⟨rfl, rfl, rfl⟩, rfl, rfl⟩, show PP G (mw G h u lt sj) t.heap by rw [ht]; exact hP⟩, hS.F ht⟩) hS.2.2 dX5_put_38
      · skip
        obtain ⟨ho1, ho2⟩ := hopn (hop.resolve_left c25)
        refine lv_iload_n hx hb dX5_put_28 rfl (lv_at hl 1 rfl) ?_
        refine lv_aload_n hx hb dX5_put_29 rfl (lv_at hl 0 rfl) ?_
        have hP := mw_self26 hP
        have hD : va_D A (mw G h (oA u 26 (u.2 26)) lt sj) := mw_self26D hD
        refine cXi (As := []) (rest := [.int (nI i1)]) (S := oS × Int64 × (Nat → Int64)) (wa := mw G h (oA u 26 (u.2 26)) lt sj) (w1 := fun v => mw G h v.1 v.2.1 v.2.2) ⟨hx, hb, hml, hown, hts⟩ (mt_X5_openLines l G h _ u lt sj (u.2 26) nv nl (hnv) (hnl) (by first | assumption | omega) (by first | assumption | omega) (ho2)) (cwV 0 hts gX5_put_X5_openLines rfl rfl rfl (by decide +kernel) ⟨Nat.le_of_ble_eq_true rfl, Nat.le_of_ble_eq_true rfl⟩) hK hN hP hD hS hA (fun _ => rfl) 0 5 rfl rfl rfl hl.1 rfl (Nat.le_of_ble_eq_true rfl) ⟨Nat.zero_le _, Nat.zero_le _⟩ dX5_put_30 (fun r30 u30 H locs hw30 hP hD hS => ?_)
        obtain ⟨g30, rfl, rfl⟩ := hw30
        have hP : PP G (mw G h (oA u 26 g30) lt sj) H := hP
        have hD : va_D A (mw G h (oA u 26 g30) lt sj) := hD
        have hc30 := cnt_le (sdb (u.2 6) (u.2 7) (chV (u.2 1) (u.2 2) (u.2 3) (nI nv))) nl
        refine lv_icmp_le (tgt := 39) hx hb dX5_put_33 (by decide) (fun c33 => ?_) (fun c33 => ?_)
        · skip
          have n33 : i1 ≤ (cnt (sdb (u.2 6) (u.2 7) (chV (u.2 1) (u.2 2) (u.2 3) (nI nv))) nl) := (nI_leI (a := i1) (b := cnt (sdb (u.2 6) (u.2 7) (chV (u.2 1) (u.2 2) (u.2 3) (nI nv))) nl) (by omega) (by omega)).mp c33
          refine lv_aload_n hx hb dX5_put_39 rfl (lv_at hl 0 rfl) ?_
          refine va_get (D := gD G) (ci := 5) (v := .int (u.1 4)) (C := RX5) (T := TX5) (N := 38) hx hb hts hiX5 hown hK hP 0 rfl rfl 4 (by decide) k175 (fun _ h9 => h9) rfl dX5_put_40 ?_
          refine topE hnl ?_
          refine lv_bipush (v := nI 120) hx hb dX5_put_43 (by decide) ?_
          refine lv_icmp_ne (tgt := 51) hx hb dX5_put_45 (by decide) (fun c45 => ?_) (fun c45 => ?_)
          · skip
            have n45 : ¬ (nl = 120) := fun q9 => c45 ((nI_eq (a := nl) (b := 120) (by omega) (by omega)).mpr q9)
            refine lv_aload_n hx hb dX5_put_51 rfl (lv_at hl 0 rfl) ?_
            refine lv_iload_n hx hb dX5_put_52 rfl (lv_at hl 1 rfl) ?_
            refine lv_iload_n hx hb dX5_put_53 rfl (lv_at hl 2 rfl) ?_
            refine cXi (As := [.int (nI i1), .int lett]) (rest := []) (S := oS × Int64 × (Nat → Int64)) (wa := mw G h (oA u 26 g30) lt sj) (w1 := fun v => mw G h v.1 v.2.1 v.2.2) ⟨hx, hb, hml, hown, hts⟩ (mt_X5_putNow l G h _ (oA u 26 g30) lt sj nv nl i1 lett (hnv) (hnl) (by first | assumption | omega) (by first | assumption | omega) (ho2) (by first | assumption | omega)) (cwV 2 hts gX5_put_X5_putNow rfl rfl rfl (by decide +kernel) ⟨Nat.le_of_ble_eq_true rfl, Nat.le_of_ble_eq_true rfl⟩) hK hN hP hD hS hA (fun _ => rfl) 0 5 rfl rfl rfl hl.1 rfl (Nat.le_of_ble_eq_true rfl) ⟨Nat.zero_le _, Nat.zero_le _⟩ dX5_put_54 (fun r54 u54 H locs hw54 hP hD hS => ?_)
            obtain ⟨g54, f554, f654, f754, rfl, a54, ha54, rfl⟩ := hw54
            have hP : PP G (mw G h (oI (ln3 (oA (oA u 26 g30) 26 g54) f554 f654 f754) 4 (nI (nl + 1))) lt sj) H := hP
            have hD : va_D A (mw G h (oI (ln3 (oA (oA u 26 g30) 26 g54) f554 f654 f754) 4 (nI (nl + 1))) lt sj) := hD
            exact W.iret (v := nI (a54)) hx hb hr (fun t ht hW => ⟨⟨nI (a54), (oI (ln3 (oA (oA u 26 g30) 26 g54) f554 f654 f754) 4 (nI (nl + 1)), lt, sj), rfl, ⟨⟨nv, nl + 1, nt, nh, MIx_ln hI0 (by first | exact lnE.refl _ | exact lnE_ch _ _ | exact ((lnE_ch _ _).trans (lnE_3 _ _ _ _)).trans (lnE_4 _ _) | exact (((lnE_ch _ _).trans (lnE_ch _ _)).trans (lnE_3 _ _ _ _)).trans (lnE_4 _ _) | exact (lnE_ch _ _).trans (lnE_3 _ _ _ _)) rfl (by omega)⟩, ⟨rfl, rfl, rfl⟩, rfl, rfl⟩, show PP G (mw G h (oI (ln3 (oA (oA u 26 g30) 26 g54) f554 f654 f754) 4 (nI (nl + 1))) lt sj) t.heap by rw [ht]; exact hP⟩, hS.F ht⟩) hS.2.2 dX5_put_57
          · skip
            have n45 : nl = 120 := (nI_eq (a := nl) (b := 120) (by omega) (by omega)).mp c45
            refine lv_ldc (v := (-1000000004 : Int32)) hx hb hown (hts (.constant RX5 104 (-1000000004)) (List.mem_of_getElem? (i := 7) rfl)) dX5_put_48 ?_
            exact W.iret (v := (-1000000004 : Int32)) hx hb hr (fun t ht hW => ⟨⟨(-1000000004 : Int32), (oA u 26 g30, lt, sj), rfl, ⟨⟨nv, nl, nt, nh, hI0⟩, ⟨rfl, rfl, rfl⟩, rfl, rfl⟩, show PP G (mw G h (oA u 26 g30) lt sj) t.heap by rw [ht]; exact hP⟩, hS.F ht⟩) hS.2.2 dX5_put_50
        · skip
          have n33 : ¬ (i1 ≤ (cnt (sdb (u.2 6) (u.2 7) (chV (u.2 1) (u.2 2) (u.2 3) (nI nv))) nl)) := fun q9 => c33 ((nI_leI (a := i1) (b := cnt (sdb (u.2 6) (u.2 7) (chV (u.2 1) (u.2 2) (u.2 3) (nI nv))) nl) (by omega) (by omega)).mpr q9)
          refine lv_ldc (v := (-1000000003 : Int32)) hx hb hown (hts (.constant RX5 225 (-1000000003)) (List.mem_of_getElem? (i := 5) rfl)) dX5_put_36 ?_
          exact W.iret (v := (-1000000003 : Int32)) hx hb hr (fun t ht hW => ⟨⟨(-1000000003 : Int32), (oA u 26 g30, lt, sj), rfl, ⟨⟨nv, nl, nt, nh, hI0⟩, ⟨rfl, rfl, rfl⟩, rfl, rfl⟩, show PP G (mw G h (oA u 26 g30) lt sj) t.heap by rw [ht]; exact hP⟩, hS.F ht⟩) hS.2.2 dX5_put_38
    · skip
      refine lv_if_ne (tgt := 21) hx hb dX5_put_15 (by decide) (fun c9 => absurd (by decide) c9) (fun _ => ?_)
      refine lv_ldc (v := (-1000000002 : Int32)) hx hb hown (hts (.constant RX5 100 (-1000000002)) (List.mem_of_getElem? (i := 3) rfl)) dX5_put_18 ?_
      exact W.iret (v := (-1000000002 : Int32)) hx hb hr (fun t ht hW => ⟨⟨(-1000000002 : Int32), (u, lt, sj), rfl, ⟨⟨nv, nl, nt, nh, hI0⟩, ⟨rfl, rfl, rfl⟩, rfl, rfl⟩, show PP G (mw G h u lt sj) t.heap by rw [ht]; exact hP⟩, hS.F ht⟩) hS.2.2 dX5_put_20
set_option maxHeartbeats 1000000 in
set_option maxRecDepth 100000 in
theorem mt_X5_takeNow (l : Launch) (G : gG) (h : Nat → Nat) (sz : Nat) (u : oS) (lt : Int64) (sj : Nat → Int64) (nv : Nat) (nl : Nat) (i : Nat) (hnv : u.1 0 = nI nv) (hnl : u.1 4 = nI nl) (hnv24 : nv ≤ 24) (hnl120 : nl ≤ 120) (hi : i < nl) : Met l yX5_takeNow wsX5_takeNow ({ frames := 0, cells := 0, slots := 0, locals := 0 }) (preW G (mw G h u lt sj) sz [.ref (h 0), .int (nI i)]) (va_Qi (fun (r : Int32) (v : oS × Int64 × (Nat → Int64)) => (∃ f5 f6 f7, v = (ln3 u f5 f6 f7, lt, sj)) ∨ (∃ f5 f6 f7, v = (oI (ln3 u f5 f6 f7) 4 (nI (nl - 1)), lt, sj))) (fun v t => PP G (mw G h v.1 v.2.1 v.2.2) t.heap) (va_A (mw G h u lt sj) sz)) 0 0 (va_A (mw G h u lt sj) sz) := by
  refine Met.ofW (cc := cX5_takeNow) (maxL := 4) (ret := (some .int)) (by decide) rfl ?_
  intro p e s m args below meth c s₁ B hml hv
  obtain ⟨ha, hsz, hP, hK, hN, hD0⟩ := hv
  subst ha
  have hx := B.exec
  have hb := B.bytes
  have hr := B.returns
  have hts := atoms_spec (ws := wsX5_takeNow) B.pre
  have hown : s.vm.findClass RX5 = some m.cls := findClass_of_methodNamed B.named
  have hlocks := B.notSynchronized
  subst hsz
  have hD := hD0.self (sz := s.heap.size)
  generalize hAe : va_A (mw G h u lt sj) s.heap.size = A at hD ⊢
  have hA : ∀ q : Nat, s.heap.size ≤ q → A q := fun q h => by rw [← hAe]; exact Or.inr h
  clear hAe hD0
  have hS : va_S A s.heap s.heap [] := va_S.rf
  have hiX5 : ∀ w ∈ wsX50, w ∈ wsX5_takeNow := by decide +kernel
  have k19 := hts (.fieldLink RX5 19 "WovenHistoryModel" "letter" "[I") (List.mem_of_getElem? (i := 1) rfl)
  have k22 := hts (.fieldLink RX5 22 "WovenHistoryModel" "brought" "[I") (List.mem_of_getElem? (i := 2) rfl)
  have k91 := hts (.fieldLink RX5 91 "WovenHistoryModel" "versions" "I") (List.mem_of_getElem? (i := 3) rfl)
  have k25 := hts (.fieldLink RX5 25 "WovenHistoryModel" "took" "[I") (List.mem_of_getElem? (i := 4) rfl)
  have k175 := hts (.fieldLink RX5 175 "WovenHistoryModel" "lines" "I") (List.mem_of_getElem? (i := 5) rfl)
  have hl := lv_entry ([.ref (h 0), .int (nI i)]) (n := 4) (Nat.le_of_ble_eq_true rfl)
  rw [lg_entry_eq]
  generalize (lg_sl ([.ref (h 0), .int (nI i)]) ++ List.replicate (4 - (lg_sl ([.ref (h 0), .int (nI i)])).length) Slot.unset).toArray = ls at hl ⊢
  have hl : lv_has ls 4 [(0, .ref (h 0)), (1, .int (nI i))] := hl
  refine lv_aload_n hx hb dX5_takeNow_0 rfl (lv_at hl 0 rfl) ?_
  refine va_get (D := gD G) (ci := 5) (v := .ref (h 5)) (C := RX5) (T := TX5) (N := 38) hx hb hts hiX5 hown hK hP 0 rfl rfl 5 (by decide) k19 (fun _ h9 => h9) rfl dX5_takeNow_1 ?_
  refine lv_iload_n hx hb dX5_takeNow_4 rfl (lv_at hl 1 rfl) ?_
  refine ialdN (f := u.2 5) (n := 120) (k := i) hx hb hK hP 4 rfl rfl (by omega) dX5_takeNow_5 ?_
  refine lv_istore_n (lv' := [(2, .int ((u.2 5) i)), (0, .ref (h 0)), (1, .int (nI i))]) hx hb dX5_takeNow_6 rfl hl (by decide) rfl (fun ls hl => ?_)
  refine lv_aload_n hx hb dX5_takeNow_7 rfl (lv_at hl 1 rfl) ?_
  refine va_get (D := gD G) (ci := 5) (v := .ref (h 6)) (C := RX5) (T := TX5) (N := 38) hx hb hts hiX5 hown hK hP 0 rfl rfl 6 (by decide) k22 (fun _ h9 => h9) rfl dX5_takeNow_8 ?_
  refine lv_iload_n hx hb dX5_takeNow_11 rfl (lv_at hl 2 rfl) ?_
  refine ialdN (f := u.2 6) (n := 120) (k := i) hx hb hK hP 5 rfl rfl (by omega) dX5_takeNow_12 ?_
  refine lv_aload_n hx hb dX5_takeNow_13 rfl (lv_at hl 1 rfl) ?_
  refine va_get (D := gD G) (ci := 5) (v := .int (u.1 0)) (C := RX5) (T := TX5) (N := 38) hx hb hts hiX5 hown hK hP 0 rfl rfl 0 (by decide) k91 (fun _ h9 => h9) rfl dX5_takeNow_14 ?_
  refine topE hnv ?_
  refine lv_icmp_eq (tgt := 37) hx hb dX5_takeNow_17 (by decide) (fun c17 => ?_) (fun c17 => ?_)
  · skip
    refine lv_iload_n hx hb dX5_takeNow_37 rfl (lv_at hl 2 rfl) ?_
    refine lv_iconst (v := nI 1) hx hb dX5_takeNow_38 (by decide) ?_
    refine lv_iadd hx hb dX5_takeNow_39 ?_
    refine topE (y := nI (i + 1)) (nI_add i 1) ?_
    refine lv_istore_n (lv' := [(3, .int (nI (i + 1))), (2, .int ((u.2 5) i)), (0, .ref (h 0)), (1, .int (nI i))]) hx hb dX5_takeNow_40 rfl hl (by decide) rfl (fun ls hl => ?_)
    have LP41 : ∀ (n41m : Nat), ∀ (k : Nat) (f5 : Nat → Int32) (f6 : Nat → Int32) (f7 : Nat → Int32) (hk : k ≤ nl) (hk1 : 1 ≤ k), (nl - k < n41m) → ∀ (H : Heap) (locs : List Loc) (ls : Array Slot), PP G (mw G h (ln3 u f5 f6 f7) lt sj) H → va_D A (mw G h (ln3 u f5 f6 f7) lt sj) → va_S A s.heap H locs → lv_has ls 4 [(0, .ref (h 0)), (2, .int (u.2 5 i)), (3, .int (nI k))] → W p l e (headSpec wsX5_takeNow ({ frames := 0, cells := 0, slots := 0, locals := 0 })).room s m ([.ref (h 0), .int (nI i)] : List Value).toArray below meth c H locs 0 0 (MQ below (va_Qi (fun (r : Int32) (v : oS × Int64 × (Nat → Int64)) => (∃ f5 f6 f7, v = (ln3 u f5 f6 f7, lt, sj)) ∨ (∃ f5 f6 f7, v = (oI (ln3 u f5 f6 f7) 4 (nI (nl - 1)), lt, sj))) (fun v t => PP G (mw G h v.1 v.2.1 v.2.2) t.heap) A) ([.ref (h 0), .int (nI i)] : List Value).toArray s 0 0 A) (F0 m 41 ls []) := by
      intro n41m
      induction n41m with
      | zero => intro k f5 f6 f7 hk hk1 hmu H locs ls hP hD hS hl; exact absurd hmu (Nat.not_lt_zero _)
      | succ n41m ih41 =>
        intro k f5 f6 f7 hk hk1 hmu H locs ls hP hD hS hl
        refine lv_iload_n hx hb dX5_takeNow_41 rfl (lv_at hl 2 rfl) ?_
        refine lv_aload_n hx hb dX5_takeNow_42 rfl (lv_at hl 0 rfl) ?_
        refine va_get (D := gD G) (ci := 5) (v := .int ((ln3 u f5 f6 f7).1 4)) (C := RX5) (T := TX5) (N := 38) hx hb hts hiX5 hown hK hP 0 rfl rfl 4 (by decide) k175 (fun _ h9 => h9) rfl dX5_takeNow_43 ?_
        refine topE hnl ?_
        refine lv_icmp_ge (tgt := 97) hx hb dX5_takeNow_46 (by decide) (fun c46 => ?_) (fun c46 => ?_)
        · skip
          have n46 : nl ≤ k := (nI_leI (a := nl) (b := k) (by omega) (by omega)).mp c46
          refine lv_aload_n hx hb dX5_takeNow_97 rfl (lv_at hl 0 rfl) ?_
          refine lv_dup hx hb dX5_takeNow_98 rfl ?_
          refine va_get (D := gD G) (ci := 5) (v := .int ((ln3 u f5 f6 f7).1 4)) (C := RX5) (T := TX5) (N := 38) hx hb hts hiX5 hown hK hP 0 rfl rfl 4 (by decide) k175 (fun _ h9 => h9) rfl dX5_takeNow_99 ?_
          refine topE hnl ?_
          refine lv_iconst (v := nI 1) hx hb dX5_takeNow_102 (by decide) ?_
          refine lv_isub hx hb dX5_takeNow_103 ?_
          refine topE (y := nI (nl - 1)) (pk_sub (by omega)) ?_
          refine va_put (D := gD G) (ci := 5) (v := .int (nI (nl - 1))) (ty := .int) (C := RX5) (T := TX5) (N := 38) hx hb hts hiX5 tyX5 tyX5_ok nmX5 hown hK hP hD hS 0 rfl rfl 4 (by decide) k175 (fun _ h9 => h9) rfl (by decide +kernel) (rfl) (rfl) (Nat.le_of_ble_eq_true rfl) dX5_takeNow_104 (fun H locs hP hD hS => ?_)
          have hP : PP G (mw G h (oI (ln3 u f5 f6 f7) 4 (nI (nl - 1))) lt sj) H := hP
          have hD : va_D A (mw G h (oI (ln3 u f5 f6 f7) 4 (nI (nl - 1))) lt sj) := hD
          refine lv_iload_n hx hb dX5_takeNow_107 rfl (lv_at hl 1 rfl) ?_
          exact W.iret (v := u.2 5 i) hx hb hr (fun t ht hW => ⟨⟨u.2 5 i, (oI (ln3 u f5 f6 f7) 4 (nI (nl - 1)), lt, sj), rfl, Or.inr ⟨f5, f6, f7, rfl⟩, show PP G (mw G h (oI (ln3 u f5 f6 f7) 4 (nI (nl - 1))) lt sj) t.heap by rw [ht]; exact hP⟩, hS.F ht⟩) hS.2.2 dX5_takeNow_108
        · skip
          have n46 : ¬ (nl ≤ k) := fun q9 => c46 ((nI_leI (a := nl) (b := k) (by omega) (by omega)).mpr q9)
          refine lv_aload_n hx hb dX5_takeNow_49 rfl (lv_at hl 0 rfl) ?_
          refine va_get (D := gD G) (ci := 5) (v := .ref (h 5)) (C := RX5) (T := TX5) (N := 38) hx hb hts hiX5 hown hK hP 0 rfl rfl 5 (by decide) k19 (fun _ h9 => h9) rfl dX5_takeNow_50 ?_
          refine lv_iload_n hx hb dX5_takeNow_53 rfl (lv_at hl 2 rfl) ?_
          refine lv_iconst (v := nI 1) hx hb dX5_takeNow_54 (by decide) ?_
          refine lv_isub hx hb dX5_takeNow_55 ?_
          refine topE (y := nI (k - 1)) (pk_sub (by omega)) ?_
          refine lv_aload_n hx hb dX5_takeNow_56 rfl (lv_at hl 0 rfl) ?_
          refine va_get (D := gD G) (ci := 5) (v := .ref (h 5)) (C := RX5) (T := TX5) (N := 38) hx hb hts hiX5 hown hK hP 0 rfl rfl 5 (by decide) k19 (fun _ h9 => h9) rfl dX5_takeNow_57 ?_
          refine lv_iload_n hx hb dX5_takeNow_60 rfl (lv_at hl 2 rfl) ?_
          refine ialdN (f := f5) (n := 120) (k := k) hx hb hK hP 4 rfl rfl (by omega) dX5_takeNow_61 ?_
          refine iastN (f := f5) (n := 120) (k := k - 1) hx hb hK hP hD hS 4 rfl rfl (by omega) dX5_takeNow_62 (fun H locs hP hD hS => ?_)
          have hP : PP G (mw G h (oA (ln3 u f5 f6 f7) 5 (upd f5 (k - 1) (f5 k))) lt sj) H := hP
          have hD : va_D A (mw G h (oA (ln3 u f5 f6 f7) 5 (upd f5 (k - 1) (f5 k))) lt sj) := hD
          refine lv_aload_n hx hb dX5_takeNow_63 rfl (lv_at hl 0 rfl) ?_
          refine va_get (D := gD G) (ci := 5) (v := .ref (h 6)) (C := RX5) (T := TX5) (N := 38) hx hb hts hiX5 hown hK hP 0 rfl rfl 6 (by decide) k22 (fun _ h9 => h9) rfl dX5_takeNow_64 ?_
          refine lv_iload_n hx hb dX5_takeNow_67 rfl (lv_at hl 2 rfl) ?_
          refine lv_iconst (v := nI 1) hx hb dX5_takeNow_68 (by decide) ?_
          refine lv_isub hx hb dX5_takeNow_69 ?_
          refine topE (y := nI (k - 1)) (pk_sub (by omega)) ?_
          refine lv_aload_n hx hb dX5_takeNow_70 rfl (lv_at hl 0 rfl) ?_
          refine va_get (D := gD G) (ci := 5) (v := .ref (h 6)) (C := RX5) (T := TX5) (N := 38) hx hb hts hiX5 hown hK hP 0 rfl rfl 6 (by decide) k22 (fun _ h9 => h9) rfl dX5_takeNow_71 ?_
          refine lv_iload_n hx hb dX5_takeNow_74 rfl (lv_at hl 2 rfl) ?_
          refine ialdN (f := f6) (n := 120) (k := k) hx hb hK hP 5 rfl rfl (by omega) dX5_takeNow_75 ?_
          refine iastN (f := f6) (n := 120) (k := k - 1) hx hb hK hP hD hS 5 rfl rfl (by omega) dX5_takeNow_76 (fun H locs hP hD hS => ?_)
          have hP : PP G (mw G h (oA (oA (ln3 u f5 f6 f7) 5 (upd f5 (k - 1) (f5 k))) 6 (upd f6 (k - 1) (f6 k))) lt sj) H := hP
          have hD : va_D A (mw G h (oA (oA (ln3 u f5 f6 f7) 5 (upd f5 (k - 1) (f5 k))) 6 (upd f6 (k - 1) (f6 k))) lt sj) := hD
          refine lv_aload_n hx hb dX5_takeNow_77 rfl (lv_at hl 0 rfl) ?_
          refine va_get (D := gD G) (ci := 5) (v := .ref (h 7)) (C := RX5) (T := TX5) (N := 38) hx hb hts hiX5 hown hK hP 0 rfl rfl 7 (by decide) k25 (fun _ h9 => h9) rfl dX5_takeNow_78 ?_
          refine lv_iload_n hx hb dX5_takeNow_81 rfl (lv_at hl 2 rfl) ?_
          refine lv_iconst (v := nI 1) hx hb dX5_takeNow_82 (by decide) ?_
          refine lv_isub hx hb dX5_takeNow_83 ?_
          refine topE (y := nI (k - 1)) (pk_sub (by omega)) ?_
          refine lv_aload_n hx hb dX5_takeNow_84 rfl (lv_at hl 0 rfl) ?_
          refine va_get (D := gD G) (ci := 5) (v := .ref (h 7)) (C := RX5) (T := TX5) (N := 38) hx hb hts hiX5 hown hK hP 0 rfl rfl 7 (by decide) k25 (fun _ h9 => h9) rfl dX5_takeNow_85 ?_
          refine lv_iload_n hx hb dX5_takeNow_88 rfl (lv_at hl 2 rfl) ?_
          refine ialdN (f := f7) (n := 120) (k := k) hx hb hK hP 6 rfl rfl (by omega) dX5_takeNow_89 ?_
          refine iastN (f := f7) (n := 120) (k := k - 1) hx hb hK hP hD hS 6 rfl rfl (by omega) dX5_takeNow_90 (fun H locs hP hD hS => ?_)
          have hP : PP G (mw G h (oA (oA (oA (ln3 u f5 f6 f7) 5 (upd f5 (k - 1) (f5 k))) 6 (upd f6 (k - 1) (f6 k))) 7 (upd f7 (k - 1) (f7 k))) lt sj) H := hP
          have hD : va_D A (mw G h (oA (oA (oA (ln3 u f5 f6 f7) 5 (upd f5 (k - 1) (f5 k))) 6 (upd f6 (k - 1) (f6 k))) 7 (upd f7 (k - 1) (f7 k))) lt sj) := hD
          refine lv_iinc (v := nI (k + 1)) (lv' := [(3, .int (nI (k + 1))), (0, .ref (h 0)), (2, .int (u.2 5 i))]) hx hb dX5_takeNow_91 hl (k := 2) rfl (nI_1 k) (by decide) rfl (fun ls hl => ?_)
          refine lv_goto (tgt := 41) hx hb dX5_takeNow_94 (by decide) ?_
          exact ih41 (k + 1) (upd f5 (k - 1) (f5 k)) (upd f6 (k - 1) (f6 k)) (upd f7 (k - 1) (f7 k)) (by first | assumption | omega) (by first | assumption | omega) (by omega) _ _ ls hP hD hS (lv_sub hl [1, 2, 0] rfl)
    exact LP41 (nl - (i + 1) + 1) (i + 1) (u.2 5) (u.2 6) (u.2 7) (by first | assumption | omega) (by first | assumption | omega) (Nat.lt_succ_self _) _ _ ls hP hD hS (lv_sub hl [2, 1, 0] rfl)
  · skip
    refine lv_aload_n hx hb dX5_takeNow_20 rfl (lv_at hl 1 rfl) ?_
    refine va_get (D := gD G) (ci := 5) (v := .ref (h 7)) (C := RX5) (T := TX5) (N := 38) hx hb hts hiX5 hown hK hP 0 rfl rfl 7 (by decide) k25 (fun _ h9 => h9) rfl dX5_takeNow_21 ?_
    refine lv_iload_n hx hb dX5_takeNow_24 rfl (lv_at hl 2 rfl) ?_
    refine lv_dup2_11 hx hb dX5_takeNow_25 rfl rfl ?_
    refine ialdN (f := u.2 7) (n := 120) (k := i) hx hb hK hP 6 rfl rfl (by omega) dX5_takeNow_26 ?_
    refine lv_iconst (v := nI 1) hx hb dX5_takeNow_27 (by decide) ?_
    refine lv_aload_n hx hb dX5_takeNow_28 rfl (lv_at hl 1 rfl) ?_
    refine va_get (D := gD G) (ci := 5) (v := .int (u.1 0)) (C := RX5) (T := TX5) (N := 38) hx hb hts hiX5 hown hK hP 0 rfl rfl 0 (by decide) k91 (fun _ h9 => h9) rfl dX5_takeNow_29 ?_
    refine topE hnv ?_
    refine lv_ishl hx hb dX5_takeNow_32 ?_
    refine lv_ior hx hb dX5_takeNow_33 ?_
    refine iastN (f := u.2 7) (n := 120) (k := i) hx hb hK hP hD hS 6 rfl rfl (by omega) dX5_takeNow_34 (fun H locs hP hD hS => ?_)
    have hP : PP G (mw G h (oA u 7 (upd (u.2 7) i (((u.2 7) i) ||| ((nI 1) <<< ((nI nv) &&& 31))))) lt sj) H := hP
    have hD : va_D A (mw G h (oA u 7 (upd (u.2 7) i (((u.2 7) i) ||| ((nI 1) <<< ((nI nv) &&& 31))))) lt sj) := hD
    refine lv_iload_n hx hb dX5_takeNow_35 rfl (lv_at hl 0 rfl) ?_
    exact W.iret (v := (u.2 5) i) hx hb hr (fun t ht hW => ⟨⟨(u.2 5) i, (oA u 7 (upd (u.2 7) i (((u.2 7) i) ||| ((nI 1) <<< ((nI nv) &&& 31)))), lt, sj), rfl, Or.inl ⟨_, _, _, congrArg (fun q => (q, lt, sj)) (ln3_7 _ _)⟩, show PP G (mw G h (oA u 7 (upd (u.2 7) i (((u.2 7) i) ||| ((nI 1) <<< ((nI nv) &&& 31))))) lt sj) t.heap by rw [ht]; exact hP⟩, hS.F ht⟩) hS.2.2 dX5_takeNow_36
set_option maxHeartbeats 1000000 in
set_option maxRecDepth 100000 in
theorem mt_X5_take (l : Launch) (G : gG) (h : Nat → Nat) (sz : Nat) (u : oS) (lt : Int64) (sj : Nat → Int64) (i : Int32) (nv nl nt nh : Nat) (hI : MIx u nv nl nt nh) : Met l yX5_take wsX5_take ({ frames := 3, cells := 0, slots := 0, locals := 67 }) (preW G (mw G h u lt sj) sz [.ref (h 0), .int i]) (va_Qi (fun (r : Int32) (v : oS × Int64 × (Nat → Int64)) => MIk u v.1) (fun v t => PP G (mw G h v.1 v.2.1 v.2.2) t.heap) (va_A (mw G h u lt sj) sz)) 0 0 (va_A (mw G h u lt sj) sz) := by
  refine Met.ofW (cc := cX5_take) (maxL := 3) (ret := (some .int)) (by decide) rfl ?_
  intro p e s m args below meth c s₁ B hml hv
  obtain ⟨ha, hsz, hP, hK, hN, hD0⟩ := hv
  subst ha
  have hx := B.exec
  have hb := B.bytes
  have hr := B.returns
  have hts := atoms_spec (ws := wsX5_take) B.pre
  have hown : s.vm.findClass RX5 = some m.cls := findClass_of_methodNamed B.named
  have hlocks := B.notSynchronized
  subst hsz
  have hD := hD0.self (sz := s.heap.size)
  generalize hAe : va_A (mw G h u lt sj) s.heap.size = A at hD ⊢
  have hA : ∀ q : Nat, s.heap.size ≤ q → A q := fun q h => by rw [← hAe]; exact Or.inr h
  clear hAe hD0
  have hS : va_S A s.heap s.heap [] := va_S.rf
  have hiX5 : ∀ w ∈ wsX50, w ∈ wsX5_take := by decide +kernel
  have k178 := hts (.fieldLink RX5 178 "WovenHistoryModel" "isOpen" "Z") (List.mem_of_getElem? (i := 2) rfl)
  have k91 := hts (.fieldLink RX5 91 "WovenHistoryModel" "versions" "I") (List.mem_of_getElem? (i := 3) rfl)
  have hl := lv_entry ([.ref (h 0), .int i]) (n := 3) (Nat.le_of_ble_eq_true rfl)
  rw [lg_entry_eq]
  generalize (lg_sl ([.ref (h 0), .int i]) ++ List.replicate (3 - (lg_sl ([.ref (h 0), .int i])).length) Slot.unset).toArray = ls at hl ⊢
  have hl : lv_has ls 3 [(0, .ref (h 0)), (1, .int i)] := hl
  have hI0 := hI
  obtain ⟨hnv, hnl, hnt, hnh, hnv24, hnl120, hnt240, hnh120, hop, hopn, hparV, hsz4, himg⟩ := hI
  refine lv_iload_n hx hb dX5_take_0 rfl (lv_at hl 1 rfl) ?_
  refine lv_if_ge (tgt := 7) hx hb dX5_take_1 (by decide) (fun c1 => ?_) (fun c1 => ?_)
  · skip
    obtain ⟨i1, hi1, rfl⟩ := nI_of (fun q => absurd c1 (Int32.not_le.mpr q))
    refine lv_aload_n hx hb dX5_take_7 rfl (lv_at hl 0 rfl) ?_
    refine va_get (D := gD G) (ci := 5) (v := .int (u.1 8)) (C := RX5) (T := TX5) (N := 38) hx hb hts hiX5 hown hK hP 0 rfl rfl 8 (by decide) k178 (fun _ h9 => h9) rfl dX5_take_8 ?_
    refine lv_if_eq (tgt := 30) hx hb dX5_take_11 (by decide) (fun c11 => ?_) (fun c11 => ?_)
    · skip
      refine lv_iconst (v := (-1 : Int32)) hx hb dX5_take_30 (by decide) ?_
      refine lv_istore_n (lv' := [(2, .int (-1 : Int32)), (0, .ref (h 0)), (1, .int (nI i1))]) hx hb dX5_take_31 rfl hl (by decide) rfl (fun ls hl => ?_)
      refine lv_iload_n hx hb dX5_take_32 rfl (lv_at hl 0 rfl) ?_
      refine lv_if_ge (tgt := 41) hx hb dX5_take_33 (by decide) (fun c9 => absurd c9 (by decide)) (fun _ => ?_)
      refine lv_ldc (v := (-1000000003 : Int32)) hx hb hown (hts (.constant RX5 225 (-1000000003)) (List.mem_of_getElem? (i := 4) rfl)) dX5_take_36 ?_
      refine lv_goto (tgt := 46) hx hb dX5_take_38 (by decide) ?_
      exact W.iret (v := (-1000000003 : Int32)) hx hb hr (fun t ht hW => ⟨⟨(-1000000003 : Int32), (u, lt, sj), rfl, ⟨⟨nv, nl, nt, nh, hI0⟩, ⟨rfl, rfl, rfl⟩, rfl, rfl⟩, show PP G (mw G h u lt sj) t.heap by rw [ht]; exact hP⟩, hS.F ht⟩) hS.2.2 dX5_take_46
    · skip
      obtain ⟨ho1, ho2⟩ := hopn (hop.resolve_left c11)
      refine lv_aload_n hx hb dX5_take_14 rfl (lv_at hl 0 rfl) ?_
      refine lv_aload_n hx hb dX5_take_15 rfl (lv_at hl 0 rfl) ?_
      refine lv_aload_n hx hb dX5_take_16 rfl (lv_at hl 0 rfl) ?_
      refine va_get (D := gD G) (ci := 5) (v := .int (u.1 0)) (C := RX5) (T := TX5) (N := 38) hx hb hts hiX5 hown hK hP 0 rfl rfl 0 (by decide) k91 (fun _ h9 => h9) rfl dX5_take_17 ?_
      refine topE hnv ?_
      have hP := mw_self26 hP
      have hD : va_D A (mw G h (oA u 26 (u.2 26)) lt sj) := mw_self26D hD
      refine cXi (As := [.int (nI nv)]) (rest := [.ref (h 0)]) (S := oS × Int64 × (Nat → Int64)) (wa := mw G h (oA u 26 (u.2 26)) lt sj) (w1 := fun v => mw G h v.1 v.2.1 v.2.2) ⟨hx, hb, hml, hown, hts⟩ (mt_X5_changesOf l G h _ u lt sj (u.2 26) nv (by first | assumption | omega) (ho2)) (cwV 1 hts gX5_take_X5_changesOf rfl rfl rfl (by decide +kernel) ⟨Nat.le_of_ble_eq_true rfl, Nat.le_of_ble_eq_true rfl⟩) hK hN hP hD hS hA (fun _ => rfl) 0 5 rfl rfl rfl hl.1 rfl (Nat.le_of_ble_eq_true rfl) ⟨Nat.zero_le _, Nat.zero_le _⟩ dX5_take_20 (fun r20 u20 H locs hw20 hP hD hS => ?_)
      obtain ⟨g20, rfl, rfl⟩ := hw20
      have hP : PP G (mw G h (oA u 26 g20) lt sj) H := hP
      have hD : va_D A (mw G h (oA u 26 g20) lt sj) := hD
      refine lv_iload_n hx hb dX5_take_23 rfl (lv_at hl 1 rfl) ?_
      refine cRi (w := mw G h (oA u 26 g20) lt sj) (As := [.int (chV (u.2 1) (u.2 2) (u.2 3) (nI nv)), .int (nI i1)]) (rest := []) ⟨hx, hb, hml, hown, hts⟩ (mt_X5_lineAt l G h (oA u 26 g20) lt sj nl (chV (u.2 1) (u.2 2) (u.2 3) (nI nv)) i1 (hnl) (by first | assumption | omega) (by first | assumption | omega)) (cwV 2 hts gX5_take_X5_lineAt rfl rfl rfl (by decide +kernel) ⟨Nat.le_of_ble_eq_true rfl, Nat.le_of_ble_eq_true rfl⟩) hK hN hP 0 5 rfl rfl rfl hl.1 rfl (Nat.le_of_ble_eq_true rfl) ⟨Nat.zero_le _, Nat.zero_le _⟩ dX5_take_24 (fun r24 hw24 => ?_)
      rcases hw24 with ⟨i24, hi24, hp24, hq24, rfl⟩ | ⟨hq24, rfl⟩
      · skip
        refine lv_goto (tgt := 31) hx hb dX5_take_27 (by decide) ?_
        refine lv_istore_n (lv' := [(2, .int (nI (i24))), (0, .ref (h 0)), (1, .int (nI i1))]) hx hb dX5_take_31 rfl hl (by decide) rfl (fun ls hl => ?_)
        refine lv_iload_n hx hb dX5_take_32 rfl (lv_at hl 0 rfl) ?_
        refine lv_if_ge (tgt := 41) hx hb dX5_take_33 (by decide) (fun _ => ?_) (fun c9 => absurd (nI_pos' (by omega)) c9)
        refine lv_aload_n hx hb dX5_take_41 rfl (lv_at hl 1 rfl) ?_
        refine lv_iload_n hx hb dX5_take_42 rfl (lv_at hl 0 rfl) ?_
        refine cXi (As := [.int (nI (i24))]) (rest := []) (S := oS × Int64 × (Nat → Int64)) (wa := mw G h (oA u 26 g20) lt sj) (w1 := fun v => mw G h v.1 v.2.1 v.2.2) ⟨hx, hb, hml, hown, hts⟩ (mt_X5_takeNow l G h _ (oA u 26 g20) lt sj nv nl i24 (hnv) (hnl) (by first | assumption | omega) (by first | assumption | omega) (by first | assumption | omega)) (cwV 1 hts gX5_take_X5_takeNow rfl rfl rfl (by decide +kernel) ⟨Nat.le_of_ble_eq_true rfl, Nat.le_of_ble_eq_true rfl⟩) hK hN hP hD hS hA (fun _ => rfl) 0 5 rfl rfl rfl hl.1 rfl (Nat.le_of_ble_eq_true rfl) ⟨Nat.zero_le _, Nat.zero_le _⟩ dX5_take_43 (fun r43 u43 H locs hw43 hP hD hS => ?_)
        rcases hw43 with ⟨f543, f643, f743, rfl⟩ | ⟨f543, f643, f743, rfl⟩
        · skip
          have hP : PP G (mw G h (ln3 (oA u 26 g20) f543 f643 f743) lt sj) H := hP
          have hD : va_D A (mw G h (ln3 (oA u 26 g20) f543 f643 f743) lt sj) := hD
          exact W.iret (v := r43) hx hb hr (fun t ht hW => ⟨⟨r43, (ln3 (oA u 26 g20) f543 f643 f743, lt, sj), rfl, ⟨⟨nv, nl, nt, nh, MIx_ln hI0 ((lnE_ch _ _).trans (lnE_3 _ _ _ _)) hnl (by omega)⟩, ⟨rfl, rfl, rfl⟩, rfl, rfl⟩, show PP G (mw G h (ln3 (oA u 26 g20) f543 f643 f743) lt sj) t.heap by rw [ht]; exact hP⟩, hS.F ht⟩) hS.2.2 dX5_take_46
        · skip
          have hP : PP G (mw G h (oI (ln3 (oA u 26 g20) f543 f643 f743) 4 (nI (nl - 1))) lt sj) H := hP
          have hD : va_D A (mw G h (oI (ln3 (oA u 26 g20) f543 f643 f743) 4 (nI (nl - 1))) lt sj) := hD
          exact W.iret (v := r43) hx hb hr (fun t ht hW => ⟨⟨r43, (oI (ln3 (oA u 26 g20) f543 f643 f743) 4 (nI (nl - 1)), lt, sj), rfl, ⟨⟨nv, nl - 1, nt, nh, MIx_ln hI0 (((lnE_ch _ _).trans (lnE_3 _ _ _ _)).trans (lnE_4 _ _)) rfl (by omega)⟩, ⟨rfl, rfl, rfl⟩, rfl, rfl⟩, show PP G (mw G h (oI (ln3 (oA u 26 g20) f543 f643 f743) 4 (nI (nl - 1))) lt sj) t.heap by rw [ht]; exact hP⟩, hS.F ht⟩) hS.2.2 dX5_take_46
      · skip
        refine lv_goto (tgt := 31) hx hb dX5_take_27 (by decide) ?_
        refine lv_istore_n (lv' := [(2, .int (-1 : Int32)), (0, .ref (h 0)), (1, .int (nI i1))]) hx hb dX5_take_31 rfl hl (by decide) rfl (fun ls hl => ?_)
        refine lv_iload_n hx hb dX5_take_32 rfl (lv_at hl 0 rfl) ?_
        refine lv_if_ge (tgt := 41) hx hb dX5_take_33 (by decide) (fun c9 => absurd c9 (by decide)) (fun _ => ?_)
        refine lv_ldc (v := (-1000000003 : Int32)) hx hb hown (hts (.constant RX5 225 (-1000000003)) (List.mem_of_getElem? (i := 4) rfl)) dX5_take_36 ?_
        refine lv_goto (tgt := 46) hx hb dX5_take_38 (by decide) ?_
        exact W.iret (v := (-1000000003 : Int32)) hx hb hr (fun t ht hW => ⟨⟨(-1000000003 : Int32), (oA u 26 g20, lt, sj), rfl, ⟨⟨nv, nl, nt, nh, hI0⟩, ⟨rfl, rfl, rfl⟩, rfl, rfl⟩, show PP G (mw G h (oA u 26 g20) lt sj) t.heap by rw [ht]; exact hP⟩, hS.F ht⟩) hS.2.2 dX5_take_46
  · skip
    refine lv_ldc (v := (-1000000002 : Int32)) hx hb hown (hts (.constant RX5 100 (-1000000002)) (List.mem_of_getElem? (i := 1) rfl)) dX5_take_4 ?_
    exact W.iret (v := (-1000000002 : Int32)) hx hb hr (fun t ht hW => ⟨⟨(-1000000002 : Int32), (u, lt, sj), rfl, ⟨⟨nv, nl, nt, nh, hI0⟩, ⟨rfl, rfl, rfl⟩, rfl, rfl⟩, show PP G (mw G h u lt sj) t.heap by rw [ht]; exact hP⟩, hS.F ht⟩) hS.2.2 dX5_take_6
set_option maxHeartbeats 1000000 in
set_option maxRecDepth 100000 in
theorem mt_X5_close (l : Launch) (G : gG) (h : Nat → Nat) (sz : Nat) (u : oS) (lt : Int64) (sj : Nat → Int64) (nv nl nt nh : Nat) (hI : MIx u nv nl nt nh) : Met l yX5_close wsX5_close ({ frames := 0, cells := 0, slots := 0, locals := 0 }) (preW G (mw G h u lt sj) sz [.ref (h 0)]) (va_Qi (fun (r : Int32) (v : oS × Int64 × (Nat → Int64)) => MIk u v.1) (fun v t => PP G (mw G h v.1 v.2.1 v.2.2) t.heap) (va_A (mw G h u lt sj) sz)) 0 0 (va_A (mw G h u lt sj) sz) := by
  refine Met.ofW (cc := cX5_close) (maxL := 1) (ret := (some .int)) (by decide) rfl ?_
  intro p e s m args below meth c s₁ B hml hv
  obtain ⟨ha, hsz, hP, hK, hN, hD0⟩ := hv
  subst ha
  have hx := B.exec
  have hb := B.bytes
  have hr := B.returns
  have hts := atoms_spec (ws := wsX5_close) B.pre
  have hown : s.vm.findClass RX5 = some m.cls := findClass_of_methodNamed B.named
  have hlocks := B.notSynchronized
  subst hsz
  have hD := hD0.self (sz := s.heap.size)
  generalize hAe : va_A (mw G h u lt sj) s.heap.size = A at hD ⊢
  have hA : ∀ q : Nat, s.heap.size ≤ q → A q := fun q h => by rw [← hAe]; exact Or.inr h
  clear hAe hD0
  have hS : va_S A s.heap s.heap [] := va_S.rf
  have hiX5 : ∀ w ∈ wsX50, w ∈ wsX5_close := by decide +kernel
  have k178 := hts (.fieldLink RX5 178 "WovenHistoryModel" "isOpen" "Z") (List.mem_of_getElem? (i := 1) rfl)
  have k91 := hts (.fieldLink RX5 91 "WovenHistoryModel" "versions" "I") (List.mem_of_getElem? (i := 3) rfl)
  have hl := lv_entry ([.ref (h 0)]) (n := 1) (Nat.le_of_ble_eq_true rfl)
  rw [lg_entry_eq]
  generalize (lg_sl ([.ref (h 0)]) ++ List.replicate (1 - (lg_sl ([.ref (h 0)])).length) Slot.unset).toArray = ls at hl ⊢
  have hl : lv_has ls 1 [(0, .ref (h 0))] := hl
  have hI0 := hI
  obtain ⟨hnv, hnl, hnt, hnh, hnv24, hnl120, hnt240, hnh120, hop, hopn, hparV, hsz4, himg⟩ := hI
  refine lv_aload_n hx hb dX5_close_0 rfl (lv_at hl 0 rfl) ?_
  refine va_get (D := gD G) (ci := 5) (v := .int (u.1 8)) (C := RX5) (T := TX5) (N := 38) hx hb hts hiX5 hown hK hP 0 rfl rfl 8 (by decide) k178 (fun _ h9 => h9) rfl dX5_close_1 ?_
  refine lv_if_ne (tgt := 10) hx hb dX5_close_4 (by decide) (fun c4 => ?_) (fun c4 => ?_)
  · skip
    refine lv_aload_n hx hb dX5_close_10 rfl (lv_at hl 0 rfl) ?_
    refine lv_iconst (v := nI 0) hx hb dX5_close_11 (by decide) ?_
    refine va_put (D := gD G) (ci := 5) (v := .int (nI 0)) (ty := .boolean) (C := RX5) (T := TX5) (N := 38) hx hb hts hiX5 tyX5 tyX5_ok nmX5 hown hK hP hD hS 0 rfl rfl 8 (by decide) k178 (fun _ h9 => h9) rfl (by decide +kernel) (rfl) (rfl) (Nat.le_of_ble_eq_true rfl) dX5_close_12 (fun H locs hP hD hS => ?_)
    have hP : PP G (mw G h (oI u 8 (nI 0)) lt sj) H := hP
    have hD : va_D A (mw G h (oI u 8 (nI 0)) lt sj) := hD
    refine lv_aload_n hx hb dX5_close_15 rfl (lv_at hl 0 rfl) ?_
    refine lv_dup hx hb dX5_close_16 rfl ?_
    refine va_get (D := gD G) (ci := 5) (v := .int ((oI u 8 (nI 0)).1 0)) (C := RX5) (T := TX5) (N := 38) hx hb hts hiX5 hown hK hP 0 rfl rfl 0 (by decide) k91 (fun _ h9 => h9) rfl dX5_close_17 ?_
    refine topE hnv ?_
    refine lv_iconst (v := nI 1) hx hb dX5_close_20 (by decide) ?_
    refine lv_iadd hx hb dX5_close_21 ?_
    refine topE (y := nI (nv + 1)) (nI_add nv 1) ?_
    refine va_put (D := gD G) (ci := 5) (v := .int (nI (nv + 1))) (ty := .int) (C := RX5) (T := TX5) (N := 38) hx hb hts hiX5 tyX5 tyX5_ok nmX5 hown hK hP hD hS 0 rfl rfl 0 (by decide) k91 (fun _ h9 => h9) rfl (by decide +kernel) (rfl) (rfl) (Nat.le_of_ble_eq_true rfl) dX5_close_22 (fun H locs hP hD hS => ?_)
    have hP : PP G (mw G h (oI (oI u 8 (nI 0)) 0 (nI (nv + 1))) lt sj) H := hP
    have hD : va_D A (mw G h (oI (oI u 8 (nI 0)) 0 (nI (nv + 1))) lt sj) := hD
    refine lv_aload_n hx hb dX5_close_25 rfl (lv_at hl 0 rfl) ?_
    refine va_get (D := gD G) (ci := 5) (v := .int (nI (nv + 1))) (C := RX5) (T := TX5) (N := 38) hx hb hts hiX5 hown hK hP 0 rfl rfl 0 (by decide) k91 (fun _ h9 => h9) rfl dX5_close_26 ?_
    refine lv_iconst (v := nI 1) hx hb dX5_close_29 (by decide) ?_
    refine lv_isub hx hb dX5_close_30 ?_
    refine topE (y := nI ((nv + 1) - 1)) (pk_sub (by omega)) ?_
    exact W.iret (v := nI ((nv + 1) - 1)) hx hb hr (fun t ht hW => ⟨⟨nI ((nv + 1) - 1), (oI (oI u 8 (nI 0)) 0 (nI (nv + 1)), lt, sj), rfl, ⟨⟨nv + 1, nl, nt, nh, MIx_close hI0 (hop.resolve_left c4)⟩, ⟨rfl, rfl, rfl⟩, rfl, rfl⟩, show PP G (mw G h (oI (oI u 8 (nI 0)) 0 (nI (nv + 1))) lt sj) t.heap by rw [ht]; exact hP⟩, hS.F ht⟩) hS.2.2 dX5_close_31
  · skip
    refine lv_ldc (v := (-1000000003 : Int32)) hx hb hown (hts (.constant RX5 225 (-1000000003)) (List.mem_of_getElem? (i := 2) rfl)) dX5_close_7 ?_
    exact W.iret (v := (-1000000003 : Int32)) hx hb hr (fun t ht hW => ⟨⟨(-1000000003 : Int32), (u, lt, sj), rfl, ⟨⟨nv, nl, nt, nh, hI0⟩, ⟨rfl, rfl, rfl⟩, rfl, rfl⟩, show PP G (mw G h u lt sj) t.heap by rw [ht]; exact hP⟩, hS.F ht⟩) hS.2.2 dX5_close_9
set_option maxHeartbeats 1000000 in
set_option maxRecDepth 100000 in
theorem mt_X5_leave (l : Launch) (G : gG) (h : Nat → Nat) (sz : Nat) (u : oS) (lt : Int64) (sj : Nat → Int64) (nv nl nt nh : Nat) (hI : MIx u nv nl nt nh) : Met l yX5_leave wsX5_leave ({ frames := 4, cells := 0, slots := 0, locals := 86 }) (preW G (mw G h u lt sj) sz [.ref (h 0)]) (va_Qi (fun (r : Int32) (v : oS × Int64 × (Nat → Int64)) => MIk u v.1) (fun v t => PP G (mw G h v.1 v.2.1 v.2.2) t.heap) (va_A (mw G h u lt sj) sz)) 0 0 (va_A (mw G h u lt sj) sz) := by
  refine Met.ofW (cc := cX5_leave) (maxL := 2) (ret := (some .int)) (by decide) rfl ?_
  intro p e s m args below meth c s₁ B hml hv
  obtain ⟨ha, hsz, hP, hK, hN, hD0⟩ := hv
  subst ha
  have hx := B.exec
  have hb := B.bytes
  have hr := B.returns
  have hts := atoms_spec (ws := wsX5_leave) B.pre
  have hown : s.vm.findClass RX5 = some m.cls := findClass_of_methodNamed B.named
  have hlocks := B.notSynchronized
  subst hsz
  have hD := hD0.self (sz := s.heap.size)
  generalize hAe : va_A (mw G h u lt sj) s.heap.size = A at hD ⊢
  have hA : ∀ q : Nat, s.heap.size ≤ q → A q := fun q h => by rw [← hAe]; exact Or.inr h
  clear hAe hD0
  have hS : va_S A s.heap s.heap [] := va_S.rf
  have hiX5 : ∀ w ∈ wsX50, w ∈ wsX5_leave := by decide +kernel
  have k178 := hts (.fieldLink RX5 178 "WovenHistoryModel" "isOpen" "Z") (List.mem_of_getElem? (i := 1) rfl)
  have k229 := hts (.fieldLink RX5 229 "WovenHistoryModel" "heldLines" "I") (List.mem_of_getElem? (i := 3) rfl)
  have k175 := hts (.fieldLink RX5 175 "WovenHistoryModel" "lines" "I") (List.mem_of_getElem? (i := 4) rfl)
  have k63 := hts (.fieldLink RX5 63 "WovenHistoryModel" "heldLetter" "[I") (List.mem_of_getElem? (i := 5) rfl)
  have k19 := hts (.fieldLink RX5 19 "WovenHistoryModel" "letter" "[I") (List.mem_of_getElem? (i := 6) rfl)
  have k66 := hts (.fieldLink RX5 66 "WovenHistoryModel" "heldBrought" "[I") (List.mem_of_getElem? (i := 7) rfl)
  have k22 := hts (.fieldLink RX5 22 "WovenHistoryModel" "brought" "[I") (List.mem_of_getElem? (i := 8) rfl)
  have k69 := hts (.fieldLink RX5 69 "WovenHistoryModel" "heldTook" "[I") (List.mem_of_getElem? (i := 9) rfl)
  have k25 := hts (.fieldLink RX5 25 "WovenHistoryModel" "took" "[I") (List.mem_of_getElem? (i := 10) rfl)
  have hl := lv_entry ([.ref (h 0)]) (n := 2) (Nat.le_of_ble_eq_true rfl)
  rw [lg_entry_eq]
  generalize (lg_sl ([.ref (h 0)]) ++ List.replicate (2 - (lg_sl ([.ref (h 0)])).length) Slot.unset).toArray = ls at hl ⊢
  have hl : lv_has ls 2 [(0, .ref (h 0))] := hl
  have hI0 := hI
  obtain ⟨hnv, hnl, hnt, hnh, hnv24, hnl120, hnt240, hnh120, hop, hopn, hparV, hsz4, himg⟩ := hI
  refine lv_aload_n hx hb dX5_leave_0 rfl (lv_at hl 0 rfl) ?_
  refine va_get (D := gD G) (ci := 5) (v := .int (u.1 8)) (C := RX5) (T := TX5) (N := 38) hx hb hts hiX5 hown hK hP 0 rfl rfl 8 (by decide) k178 (fun _ h9 => h9) rfl dX5_leave_1 ?_
  refine lv_if_ne (tgt := 10) hx hb dX5_leave_4 (by decide) (fun c4 => ?_) (fun c4 => ?_)
  · skip
    obtain ⟨ho1, ho2⟩ := hopn (hop.resolve_left c4)
    refine lv_aload_n hx hb dX5_leave_10 rfl (lv_at hl 0 rfl) ?_
    have hP := mw_self26 hP
    have hD : va_D A (mw G h (oA u 26 (u.2 26)) lt sj) := mw_self26D hD
    refine cXi (As := []) (rest := []) (S := oS × Int64 × (Nat → Int64)) (wa := mw G h (oA u 26 (u.2 26)) lt sj) (w1 := fun v => mw G h v.1 v.2.1 v.2.2) ⟨hx, hb, hml, hown, hts⟩ (mt_X5_openLines l G h _ u lt sj (u.2 26) nv nl (hnv) (hnl) (by first | assumption | omega) (by first | assumption | omega) (ho2)) (cwV 0 hts gX5_leave_X5_openLines rfl rfl rfl (by decide +kernel) ⟨Nat.le_of_ble_eq_true rfl, Nat.le_of_ble_eq_true rfl⟩) hK hN hP hD hS hA (fun _ => rfl) 0 5 rfl rfl rfl hl.1 rfl (Nat.le_of_ble_eq_true rfl) ⟨Nat.zero_le _, Nat.zero_le _⟩ dX5_leave_11 (fun r11 u11 H locs hw11 hP hD hS => ?_)
    obtain ⟨g11, rfl, rfl⟩ := hw11
    have hP : PP G (mw G h (oA u 26 g11) lt sj) H := hP
    have hD : va_D A (mw G h (oA u 26 g11) lt sj) := hD
    have hc11 := cnt_le (sdb (u.2 6) (u.2 7) (chV (u.2 1) (u.2 2) (u.2 3) (nI nv))) nl
    refine lv_istore_n (lv' := [(1, .int (nI (cnt (sdb (u.2 6) (u.2 7) (chV (u.2 1) (u.2 2) (u.2 3) (nI nv))) nl))), (0, .ref (h 0))]) hx hb dX5_leave_14 rfl hl (by decide) rfl (fun ls hl => ?_)
    refine lv_aload_n hx hb dX5_leave_15 rfl (lv_at hl 1 rfl) ?_
    refine lv_iconst (v := nI 0) hx hb dX5_leave_16 (by decide) ?_
    refine va_put (D := gD G) (ci := 5) (v := .int (nI 0)) (ty := .boolean) (C := RX5) (T := TX5) (N := 38) hx hb hts hiX5 tyX5 tyX5_ok nmX5 hown hK hP hD hS 0 rfl rfl 8 (by decide) k178 (fun _ h9 => h9) rfl (by decide +kernel) (rfl) (rfl) (Nat.le_of_ble_eq_true rfl) dX5_leave_17 (fun H locs hP hD hS => ?_)
    have hP : PP G (mw G h (oI (oA u 26 g11) 8 (nI 0)) lt sj) H := hP
    have hD : va_D A (mw G h (oI (oA u 26 g11) 8 (nI 0)) lt sj) := hD
    refine lv_aload_n hx hb dX5_leave_20 rfl (lv_at hl 1 rfl) ?_
    refine lv_aload_n hx hb dX5_leave_21 rfl (lv_at hl 1 rfl) ?_
    refine va_get (D := gD G) (ci := 5) (v := .int ((oI (oA u 26 g11) 8 (nI 0)).1 27)) (C := RX5) (T := TX5) (N := 38) hx hb hts hiX5 hown hK hP 0 rfl rfl 27 (by decide) k229 (fun _ h9 => h9) rfl dX5_leave_22 ?_
    refine topE hnh ?_
    refine va_put (D := gD G) (ci := 5) (v := .int (nI nh)) (ty := .int) (C := RX5) (T := TX5) (N := 38) hx hb hts hiX5 tyX5 tyX5_ok nmX5 hown hK hP hD hS 0 rfl rfl 4 (by decide) k175 (fun _ h9 => h9) rfl (by decide +kernel) (rfl) (rfl) (Nat.le_of_ble_eq_true rfl) dX5_leave_25 (fun H locs hP hD hS => ?_)
    have hP : PP G (mw G h (oI (oI (oA u 26 g11) 8 (nI 0)) 4 (nI nh)) lt sj) H := hP
    have hD : va_D A (mw G h (oI (oI (oA u 26 g11) 8 (nI 0)) 4 (nI nh)) lt sj) := hD
    refine lv_aload_n hx hb dX5_leave_28 rfl (lv_at hl 1 rfl) ?_
    refine va_get (D := gD G) (ci := 5) (v := .ref (h 28)) (C := RX5) (T := TX5) (N := 38) hx hb hts hiX5 hown hK hP 0 rfl rfl 28 (by decide) k63 (fun _ h9 => h9) rfl dX5_leave_29 ?_
    refine lv_aload_n hx hb dX5_leave_32 rfl (lv_at hl 1 rfl) ?_
    refine va_get (D := gD G) (ci := 5) (v := .ref (h 5)) (C := RX5) (T := TX5) (N := 38) hx hb hts hiX5 hown hK hP 0 rfl rfl 5 (by decide) k19 (fun _ h9 => h9) rfl dX5_leave_33 ?_
    refine lv_aload_n hx hb dX5_leave_36 rfl (lv_at hl 1 rfl) ?_
    refine va_get (D := gD G) (ci := 5) (v := .int (nI nh)) (C := RX5) (T := TX5) (N := 38) hx hb hts hiX5 hown hK hP 0 rfl rfl 4 (by decide) k175 (fun _ h9 => h9) rfl dX5_leave_37 ?_
    refine cSWv (As := [.ref (h 28), .ref (h 5), .int (nI nh)]) (rest := []) (wa := mw G h (oI (oI (oA u 26 g11) 8 (nI 0)) 4 (nI nh)) lt sj) (wc := aw G (h 28) (h 5) 120 120 ((oI (oI (oA u 26 g11) 8 (nI 0)) 4 (nI nh)).2 28) ((oI (oI (oA u 26 g11) 8 (nI 0)) 4 (nI nh)).2 5)) (w1 := aw G (h 28) (h 5) 120 120 ((oI (oI (oA u 26 g11) 8 (nI 0)) 4 (nI nh)).2 28) (cpr ((oI (oI (oA u 26 g11) 8 (nI 0)) 4 (nI nh)).2 28) ((oI (oI (oA u 26 g11) 8 (nI 0)) 4 (nI nh)).2 5) nh)) (wa' := mw G h (oA (oI (oI (oA u 26 g11) 8 (nI 0)) 4 (nI nh)) 5 (cpr ((oI (oI (oA u 26 g11) 8 (nI 0)) 4 (nI nh)).2 28) ((oI (oI (oA u 26 g11) 8 (nI 0)) 4 (nI nh)).2 5) nh)) lt sj) ⟨hx, hb, hml, hown, hts⟩ (mt_copyRow l G _ (h 28) (h 5) 120 120 ((oI (oI (oA u 26 g11) 8 (nI 0)) 4 (nI nh)).2 28) ((oI (oI (oA u 26 g11) 8 (nI 0)) 4 (nI nh)).2 5) nh (by omega) (by omega) rfl rfl) (va_cwS 3 hts gX5_leave_X5_copyRow rfl rfl rfl (by decide +kernel) ⟨Nat.le_of_ble_eq_true rfl, Nat.le_of_ble_eq_true rfl⟩) hK hN hP hD hS hA [17, 4] rfl (by decide) rfl rfl rfl rfl rfl hl.1 rfl (Nat.le_of_ble_eq_true rfl) ⟨Nat.zero_le _, Nat.zero_le _⟩ dX5_leave_40 (fun H locs hP hD hS => ?_)
    refine lv_aload_n hx hb dX5_leave_43 rfl (lv_at hl 1 rfl) ?_
    refine va_get (D := gD G) (ci := 5) (v := .ref (h 29)) (C := RX5) (T := TX5) (N := 38) hx hb hts hiX5 hown hK hP 0 rfl rfl 29 (by decide) k66 (fun _ h9 => h9) rfl dX5_leave_44 ?_
    refine lv_aload_n hx hb dX5_leave_47 rfl (lv_at hl 1 rfl) ?_
    refine va_get (D := gD G) (ci := 5) (v := .ref (h 6)) (C := RX5) (T := TX5) (N := 38) hx hb hts hiX5 hown hK hP 0 rfl rfl 6 (by decide) k22 (fun _ h9 => h9) rfl dX5_leave_48 ?_
    refine lv_aload_n hx hb dX5_leave_51 rfl (lv_at hl 1 rfl) ?_
    refine va_get (D := gD G) (ci := 5) (v := .int (nI nh)) (C := RX5) (T := TX5) (N := 38) hx hb hts hiX5 hown hK hP 0 rfl rfl 4 (by decide) k175 (fun _ h9 => h9) rfl dX5_leave_52 ?_
    refine cSWv (As := [.ref (h 29), .ref (h 6), .int (nI nh)]) (rest := []) (wa := mw G h (oA (oI (oI (oA u 26 g11) 8 (nI 0)) 4 (nI nh)) 5 (cpr ((oI (oI (oA u 26 g11) 8 (nI 0)) 4 (nI nh)).2 28) ((oI (oI (oA u 26 g11) 8 (nI 0)) 4 (nI nh)).2 5) nh)) lt sj) (wc := aw G (h 29) (h 6) 120 120 ((oA (oI (oI (oA u 26 g11) 8 (nI 0)) 4 (nI nh)) 5 (cpr ((oI (oI (oA u 26 g11) 8 (nI 0)) 4 (nI nh)).2 28) ((oI (oI (oA u 26 g11) 8 (nI 0)) 4 (nI nh)).2 5) nh)).2 29) ((oA (oI (oI (oA u 26 g11) 8 (nI 0)) 4 (nI nh)) 5 (cpr ((oI (oI (oA u 26 g11) 8 (nI 0)) 4 (nI nh)).2 28) ((oI (oI (oA u 26 g11) 8 (nI 0)) 4 (nI nh)).2 5) nh)).2 6)) (w1 := aw G (h 29) (h 6) 120 120 ((oA (oI (oI (oA u 26 g11) 8 (nI 0)) 4 (nI nh)) 5 (cpr ((oI (oI (oA u 26 g11) 8 (nI 0)) 4 (nI nh)).2 28) ((oI (oI (oA u 26 g11) 8 (nI 0)) 4 (nI nh)).2 5) nh)).2 29) (cpr ((oA (oI (oI (oA u 26 g11) 8 (nI 0)) 4 (nI nh)) 5 (cpr ((oI (oI (oA u 26 g11) 8 (nI 0)) 4 (nI nh)).2 28) ((oI (oI (oA u 26 g11) 8 (nI 0)) 4 (nI nh)).2 5) nh)).2 29) ((oA (oI (oI (oA u 26 g11) 8 (nI 0)) 4 (nI nh)) 5 (cpr ((oI (oI (oA u 26 g11) 8 (nI 0)) 4 (nI nh)).2 28) ((oI (oI (oA u 26 g11) 8 (nI 0)) 4 (nI nh)).2 5) nh)).2 6) nh)) (wa' := mw G h (oA (oA (oI (oI (oA u 26 g11) 8 (nI 0)) 4 (nI nh)) 5 (cpr ((oI (oI (oA u 26 g11) 8 (nI 0)) 4 (nI nh)).2 28) ((oI (oI (oA u 26 g11) 8 (nI 0)) 4 (nI nh)).2 5) nh)) 6 (cpr ((oA (oI (oI (oA u 26 g11) 8 (nI 0)) 4 (nI nh)) 5 (cpr ((oI (oI (oA u 26 g11) 8 (nI 0)) 4 (nI nh)).2 28) ((oI (oI (oA u 26 g11) 8 (nI 0)) 4 (nI nh)).2 5) nh)).2 29) ((oA (oI (oI (oA u 26 g11) 8 (nI 0)) 4 (nI nh)) 5 (cpr ((oI (oI (oA u 26 g11) 8 (nI 0)) 4 (nI nh)).2 28) ((oI (oI (oA u 26 g11) 8 (nI 0)) 4 (nI nh)).2 5) nh)).2 6) nh)) lt sj) ⟨hx, hb, hml, hown, hts⟩ (mt_copyRow l G _ (h 29) (h 6) 120 120 ((oA (oI (oI (oA u 26 g11) 8 (nI 0)) 4 (nI nh)) 5 (cpr ((oI (oI (oA u 26 g11) 8 (nI 0)) 4 (nI nh)).2 28) ((oI (oI (oA u 26 g11) 8 (nI 0)) 4 (nI nh)).2 5) nh)).2 29) ((oA (oI (oI (oA u 26 g11) 8 (nI 0)) 4 (nI nh)) 5 (cpr ((oI (oI (oA u 26 g11) 8 (nI 0)) 4 (nI nh)).2 28) ((oI (oI (oA u 26 g11) 8 (nI 0)) 4 (nI nh)).2 5) nh)).2 6) nh (by omega) (by omega) rfl rfl) (va_cwS 3 hts gX5_leave_X5_copyRow rfl rfl rfl (by decide +kernel) ⟨Nat.le_of_ble_eq_true rfl, Nat.le_of_ble_eq_true rfl⟩) hK hN hP hD hS hA [18, 5] rfl (by decide) rfl rfl rfl rfl rfl hl.1 rfl (Nat.le_of_ble_eq_true rfl) ⟨Nat.zero_le _, Nat.zero_le _⟩ dX5_leave_55 (fun H locs hP hD hS => ?_)
    refine lv_aload_n hx hb dX5_leave_58 rfl (lv_at hl 1 rfl) ?_
    refine va_get (D := gD G) (ci := 5) (v := .ref (h 30)) (C := RX5) (T := TX5) (N := 38) hx hb hts hiX5 hown hK hP 0 rfl rfl 30 (by decide) k69 (fun _ h9 => h9) rfl dX5_leave_59 ?_
    refine lv_aload_n hx hb dX5_leave_62 rfl (lv_at hl 1 rfl) ?_
    refine va_get (D := gD G) (ci := 5) (v := .ref (h 7)) (C := RX5) (T := TX5) (N := 38) hx hb hts hiX5 hown hK hP 0 rfl rfl 7 (by decide) k25 (fun _ h9 => h9) rfl dX5_leave_63 ?_
    refine lv_aload_n hx hb dX5_leave_66 rfl (lv_at hl 1 rfl) ?_
    refine va_get (D := gD G) (ci := 5) (v := .int (nI nh)) (C := RX5) (T := TX5) (N := 38) hx hb hts hiX5 hown hK hP 0 rfl rfl 4 (by decide) k175 (fun _ h9 => h9) rfl dX5_leave_67 ?_
    refine cSWv (As := [.ref (h 30), .ref (h 7), .int (nI nh)]) (rest := []) (wa := mw G h (oA (oA (oI (oI (oA u 26 g11) 8 (nI 0)) 4 (nI nh)) 5 (cpr ((oI (oI (oA u 26 g11) 8 (nI 0)) 4 (nI nh)).2 28) ((oI (oI (oA u 26 g11) 8 (nI 0)) 4 (nI nh)).2 5) nh)) 6 (cpr ((oA (oI (oI (oA u 26 g11) 8 (nI 0)) 4 (nI nh)) 5 (cpr ((oI (oI (oA u 26 g11) 8 (nI 0)) 4 (nI nh)).2 28) ((oI (oI (oA u 26 g11) 8 (nI 0)) 4 (nI nh)).2 5) nh)).2 29) ((oA (oI (oI (oA u 26 g11) 8 (nI 0)) 4 (nI nh)) 5 (cpr ((oI (oI (oA u 26 g11) 8 (nI 0)) 4 (nI nh)).2 28) ((oI (oI (oA u 26 g11) 8 (nI 0)) 4 (nI nh)).2 5) nh)).2 6) nh)) lt sj) (wc := aw G (h 30) (h 7) 120 120 ((oA (oA (oI (oI (oA u 26 g11) 8 (nI 0)) 4 (nI nh)) 5 (cpr ((oI (oI (oA u 26 g11) 8 (nI 0)) 4 (nI nh)).2 28) ((oI (oI (oA u 26 g11) 8 (nI 0)) 4 (nI nh)).2 5) nh)) 6 (cpr ((oA (oI (oI (oA u 26 g11) 8 (nI 0)) 4 (nI nh)) 5 (cpr ((oI (oI (oA u 26 g11) 8 (nI 0)) 4 (nI nh)).2 28) ((oI (oI (oA u 26 g11) 8 (nI 0)) 4 (nI nh)).2 5) nh)).2 29) ((oA (oI (oI (oA u 26 g11) 8 (nI 0)) 4 (nI nh)) 5 (cpr ((oI (oI (oA u 26 g11) 8 (nI 0)) 4 (nI nh)).2 28) ((oI (oI (oA u 26 g11) 8 (nI 0)) 4 (nI nh)).2 5) nh)).2 6) nh)).2 30) ((oA (oA (oI (oI (oA u 26 g11) 8 (nI 0)) 4 (nI nh)) 5 (cpr ((oI (oI (oA u 26 g11) 8 (nI 0)) 4 (nI nh)).2 28) ((oI (oI (oA u 26 g11) 8 (nI 0)) 4 (nI nh)).2 5) nh)) 6 (cpr ((oA (oI (oI (oA u 26 g11) 8 (nI 0)) 4 (nI nh)) 5 (cpr ((oI (oI (oA u 26 g11) 8 (nI 0)) 4 (nI nh)).2 28) ((oI (oI (oA u 26 g11) 8 (nI 0)) 4 (nI nh)).2 5) nh)).2 29) ((oA (oI (oI (oA u 26 g11) 8 (nI 0)) 4 (nI nh)) 5 (cpr ((oI (oI (oA u 26 g11) 8 (nI 0)) 4 (nI nh)).2 28) ((oI (oI (oA u 26 g11) 8 (nI 0)) 4 (nI nh)).2 5) nh)).2 6) nh)).2 7)) (w1 := aw G (h 30) (h 7) 120 120 ((oA (oA (oI (oI (oA u 26 g11) 8 (nI 0)) 4 (nI nh)) 5 (cpr ((oI (oI (oA u 26 g11) 8 (nI 0)) 4 (nI nh)).2 28) ((oI (oI (oA u 26 g11) 8 (nI 0)) 4 (nI nh)).2 5) nh)) 6 (cpr ((oA (oI (oI (oA u 26 g11) 8 (nI 0)) 4 (nI nh)) 5 (cpr ((oI (oI (oA u 26 g11) 8 (nI 0)) 4 (nI nh)).2 28) ((oI (oI (oA u 26 g11) 8 (nI 0)) 4 (nI nh)).2 5) nh)).2 29) ((oA (oI (oI (oA u 26 g11) 8 (nI 0)) 4 (nI nh)) 5 (cpr ((oI (oI (oA u 26 g11) 8 (nI 0)) 4 (nI nh)).2 28) ((oI (oI (oA u 26 g11) 8 (nI 0)) 4 (nI nh)).2 5) nh)).2 6) nh)).2 30) (cpr ((oA (oA (oI (oI (oA u 26 g11) 8 (nI 0)) 4 (nI nh)) 5 (cpr ((oI (oI (oA u 26 g11) 8 (nI 0)) 4 (nI nh)).2 28) ((oI (oI (oA u 26 g11) 8 (nI 0)) 4 (nI nh)).2 5) nh)) 6 (cpr ((oA (oI (oI (oA u 26 g11) 8 (nI 0)) 4 (nI nh)) 5 (cpr ((oI (oI (oA u 26 g11) 8 (nI 0)) 4 (nI nh)).2 28) ((oI (oI (oA u 26 g11) 8 (nI 0)) 4 (nI nh)).2 5) nh)).2 29) ((oA (oI (oI (oA u 26 g11) 8 (nI 0)) 4 (nI nh)) 5 (cpr ((oI (oI (oA u 26 g11) 8 (nI 0)) 4 (nI nh)).2 28) ((oI (oI (oA u 26 g11) 8 (nI 0)) 4 (nI nh)).2 5) nh)).2 6) nh)).2 30) ((oA (oA (oI (oI (oA u 26 g11) 8 (nI 0)) 4 (nI nh)) 5 (cpr ((oI (oI (oA u 26 g11) 8 (nI 0)) 4 (nI nh)).2 28) ((oI (oI (oA u 26 g11) 8 (nI 0)) 4 (nI nh)).2 5) nh)) 6 (cpr ((oA (oI (oI (oA u 26 g11) 8 (nI 0)) 4 (nI nh)) 5 (cpr ((oI (oI (oA u 26 g11) 8 (nI 0)) 4 (nI nh)).2 28) ((oI (oI (oA u 26 g11) 8 (nI 0)) 4 (nI nh)).2 5) nh)).2 29) ((oA (oI (oI (oA u 26 g11) 8 (nI 0)) 4 (nI nh)) 5 (cpr ((oI (oI (oA u 26 g11) 8 (nI 0)) 4 (nI nh)).2 28) ((oI (oI (oA u 26 g11) 8 (nI 0)) 4 (nI nh)).2 5) nh)).2 6) nh)).2 7) nh)) (wa' := mw G h (oA (oA (oA (oI (oI (oA u 26 g11) 8 (nI 0)) 4 (nI nh)) 5 (cpr ((oI (oI (oA u 26 g11) 8 (nI 0)) 4 (nI nh)).2 28) ((oI (oI (oA u 26 g11) 8 (nI 0)) 4 (nI nh)).2 5) nh)) 6 (cpr ((oA (oI (oI (oA u 26 g11) 8 (nI 0)) 4 (nI nh)) 5 (cpr ((oI (oI (oA u 26 g11) 8 (nI 0)) 4 (nI nh)).2 28) ((oI (oI (oA u 26 g11) 8 (nI 0)) 4 (nI nh)).2 5) nh)).2 29) ((oA (oI (oI (oA u 26 g11) 8 (nI 0)) 4 (nI nh)) 5 (cpr ((oI (oI (oA u 26 g11) 8 (nI 0)) 4 (nI nh)).2 28) ((oI (oI (oA u 26 g11) 8 (nI 0)) 4 (nI nh)).2 5) nh)).2 6) nh)) 7 (cpr ((oA (oA (oI (oI (oA u 26 g11) 8 (nI 0)) 4 (nI nh)) 5 (cpr ((oI (oI (oA u 26 g11) 8 (nI 0)) 4 (nI nh)).2 28) ((oI (oI (oA u 26 g11) 8 (nI 0)) 4 (nI nh)).2 5) nh)) 6 (cpr ((oA (oI (oI (oA u 26 g11) 8 (nI 0)) 4 (nI nh)) 5 (cpr ((oI (oI (oA u 26 g11) 8 (nI 0)) 4 (nI nh)).2 28) ((oI (oI (oA u 26 g11) 8 (nI 0)) 4 (nI nh)).2 5) nh)).2 29) ((oA (oI (oI (oA u 26 g11) 8 (nI 0)) 4 (nI nh)) 5 (cpr ((oI (oI (oA u 26 g11) 8 (nI 0)) 4 (nI nh)).2 28) ((oI (oI (oA u 26 g11) 8 (nI 0)) 4 (nI nh)).2 5) nh)).2 6) nh)).2 30) ((oA (oA (oI (oI (oA u 26 g11) 8 (nI 0)) 4 (nI nh)) 5 (cpr ((oI (oI (oA u 26 g11) 8 (nI 0)) 4 (nI nh)).2 28) ((oI (oI (oA u 26 g11) 8 (nI 0)) 4 (nI nh)).2 5) nh)) 6 (cpr ((oA (oI (oI (oA u 26 g11) 8 (nI 0)) 4 (nI nh)) 5 (cpr ((oI (oI (oA u 26 g11) 8 (nI 0)) 4 (nI nh)).2 28) ((oI (oI (oA u 26 g11) 8 (nI 0)) 4 (nI nh)).2 5) nh)).2 29) ((oA (oI (oI (oA u 26 g11) 8 (nI 0)) 4 (nI nh)) 5 (cpr ((oI (oI (oA u 26 g11) 8 (nI 0)) 4 (nI nh)).2 28) ((oI (oI (oA u 26 g11) 8 (nI 0)) 4 (nI nh)).2 5) nh)).2 6) nh)).2 7) nh)) lt sj) ⟨hx, hb, hml, hown, hts⟩ (mt_copyRow l G _ (h 30) (h 7) 120 120 ((oA (oA (oI (oI (oA u 26 g11) 8 (nI 0)) 4 (nI nh)) 5 (cpr ((oI (oI (oA u 26 g11) 8 (nI 0)) 4 (nI nh)).2 28) ((oI (oI (oA u 26 g11) 8 (nI 0)) 4 (nI nh)).2 5) nh)) 6 (cpr ((oA (oI (oI (oA u 26 g11) 8 (nI 0)) 4 (nI nh)) 5 (cpr ((oI (oI (oA u 26 g11) 8 (nI 0)) 4 (nI nh)).2 28) ((oI (oI (oA u 26 g11) 8 (nI 0)) 4 (nI nh)).2 5) nh)).2 29) ((oA (oI (oI (oA u 26 g11) 8 (nI 0)) 4 (nI nh)) 5 (cpr ((oI (oI (oA u 26 g11) 8 (nI 0)) 4 (nI nh)).2 28) ((oI (oI (oA u 26 g11) 8 (nI 0)) 4 (nI nh)).2 5) nh)).2 6) nh)).2 30) ((oA (oA (oI (oI (oA u 26 g11) 8 (nI 0)) 4 (nI nh)) 5 (cpr ((oI (oI (oA u 26 g11) 8 (nI 0)) 4 (nI nh)).2 28) ((oI (oI (oA u 26 g11) 8 (nI 0)) 4 (nI nh)).2 5) nh)) 6 (cpr ((oA (oI (oI (oA u 26 g11) 8 (nI 0)) 4 (nI nh)) 5 (cpr ((oI (oI (oA u 26 g11) 8 (nI 0)) 4 (nI nh)).2 28) ((oI (oI (oA u 26 g11) 8 (nI 0)) 4 (nI nh)).2 5) nh)).2 29) ((oA (oI (oI (oA u 26 g11) 8 (nI 0)) 4 (nI nh)) 5 (cpr ((oI (oI (oA u 26 g11) 8 (nI 0)) 4 (nI nh)).2 28) ((oI (oI (oA u 26 g11) 8 (nI 0)) 4 (nI nh)).2 5) nh)).2 6) nh)).2 7) nh (by omega) (by omega) rfl rfl) (va_cwS 3 hts gX5_leave_X5_copyRow rfl rfl rfl (by decide +kernel) ⟨Nat.le_of_ble_eq_true rfl, Nat.le_of_ble_eq_true rfl⟩) hK hN hP hD hS hA [19, 6] rfl (by decide) rfl rfl rfl rfl rfl hl.1 rfl (Nat.le_of_ble_eq_true rfl) ⟨Nat.zero_le _, Nat.zero_le _⟩ dX5_leave_70 (fun H locs hP hD hS => ?_)
    refine lv_iload_n hx hb dX5_leave_73 rfl (lv_at hl 0 rfl) ?_
    exact W.iret (v := nI (cnt (sdb (u.2 6) (u.2 7) (chV (u.2 1) (u.2 2) (u.2 3) (nI nv))) nl)) hx hb hr (fun t ht hW => ⟨⟨nI (cnt (sdb (u.2 6) (u.2 7) (chV (u.2 1) (u.2 2) (u.2 3) (nI nv))) nl), (oA (oA (oA (oI (oI (oA u 26 g11) 8 (nI 0)) 4 (nI nh)) 5 (cpr ((oI (oI (oA u 26 g11) 8 (nI 0)) 4 (nI nh)).2 28) ((oI (oI (oA u 26 g11) 8 (nI 0)) 4 (nI nh)).2 5) nh)) 6 (cpr ((oA (oI (oI (oA u 26 g11) 8 (nI 0)) 4 (nI nh)) 5 (cpr ((oI (oI (oA u 26 g11) 8 (nI 0)) 4 (nI nh)).2 28) ((oI (oI (oA u 26 g11) 8 (nI 0)) 4 (nI nh)).2 5) nh)).2 29) ((oA (oI (oI (oA u 26 g11) 8 (nI 0)) 4 (nI nh)) 5 (cpr ((oI (oI (oA u 26 g11) 8 (nI 0)) 4 (nI nh)).2 28) ((oI (oI (oA u 26 g11) 8 (nI 0)) 4 (nI nh)).2 5) nh)).2 6) nh)) 7 (cpr ((oA (oA (oI (oI (oA u 26 g11) 8 (nI 0)) 4 (nI nh)) 5 (cpr ((oI (oI (oA u 26 g11) 8 (nI 0)) 4 (nI nh)).2 28) ((oI (oI (oA u 26 g11) 8 (nI 0)) 4 (nI nh)).2 5) nh)) 6 (cpr ((oA (oI (oI (oA u 26 g11) 8 (nI 0)) 4 (nI nh)) 5 (cpr ((oI (oI (oA u 26 g11) 8 (nI 0)) 4 (nI nh)).2 28) ((oI (oI (oA u 26 g11) 8 (nI 0)) 4 (nI nh)).2 5) nh)).2 29) ((oA (oI (oI (oA u 26 g11) 8 (nI 0)) 4 (nI nh)) 5 (cpr ((oI (oI (oA u 26 g11) 8 (nI 0)) 4 (nI nh)).2 28) ((oI (oI (oA u 26 g11) 8 (nI 0)) 4 (nI nh)).2 5) nh)).2 6) nh)).2 30) ((oA (oA (oI (oI (oA u 26 g11) 8 (nI 0)) 4 (nI nh)) 5 (cpr ((oI (oI (oA u 26 g11) 8 (nI 0)) 4 (nI nh)).2 28) ((oI (oI (oA u 26 g11) 8 (nI 0)) 4 (nI nh)).2 5) nh)) 6 (cpr ((oA (oI (oI (oA u 26 g11) 8 (nI 0)) 4 (nI nh)) 5 (cpr ((oI (oI (oA u 26 g11) 8 (nI 0)) 4 (nI nh)).2 28) ((oI (oI (oA u 26 g11) 8 (nI 0)) 4 (nI nh)).2 5) nh)).2 29) ((oA (oI (oI (oA u 26 g11) 8 (nI 0)) 4 (nI nh)) 5 (cpr ((oI (oI (oA u 26 g11) 8 (nI 0)) 4 (nI nh)).2 28) ((oI (oI (oA u 26 g11) 8 (nI 0)) 4 (nI nh)).2 5) nh)).2 6) nh)).2 7) nh), lt, sj), rfl, ⟨⟨nv, nh, nt, nh, hnv, rfl, hnt, hnh, hnv24, hnh120, hnt240, hnh120, Or.inl rfl, fun e => absurd e (show ¬ nI 0 = 1 by decide), hparV, hsz4, himg⟩, ⟨rfl, rfl, rfl⟩, rfl, rfl⟩, show PP G (mw G h (oA (oA (oA (oI (oI (oA u 26 g11) 8 (nI 0)) 4 (nI nh)) 5 (cpr ((oI (oI (oA u 26 g11) 8 (nI 0)) 4 (nI nh)).2 28) ((oI (oI (oA u 26 g11) 8 (nI 0)) 4 (nI nh)).2 5) nh)) 6 (cpr ((oA (oI (oI (oA u 26 g11) 8 (nI 0)) 4 (nI nh)) 5 (cpr ((oI (oI (oA u 26 g11) 8 (nI 0)) 4 (nI nh)).2 28) ((oI (oI (oA u 26 g11) 8 (nI 0)) 4 (nI nh)).2 5) nh)).2 29) ((oA (oI (oI (oA u 26 g11) 8 (nI 0)) 4 (nI nh)) 5 (cpr ((oI (oI (oA u 26 g11) 8 (nI 0)) 4 (nI nh)).2 28) ((oI (oI (oA u 26 g11) 8 (nI 0)) 4 (nI nh)).2 5) nh)).2 6) nh)) 7 (cpr ((oA (oA (oI (oI (oA u 26 g11) 8 (nI 0)) 4 (nI nh)) 5 (cpr ((oI (oI (oA u 26 g11) 8 (nI 0)) 4 (nI nh)).2 28) ((oI (oI (oA u 26 g11) 8 (nI 0)) 4 (nI nh)).2 5) nh)) 6 (cpr ((oA (oI (oI (oA u 26 g11) 8 (nI 0)) 4 (nI nh)) 5 (cpr ((oI (oI (oA u 26 g11) 8 (nI 0)) 4 (nI nh)).2 28) ((oI (oI (oA u 26 g11) 8 (nI 0)) 4 (nI nh)).2 5) nh)).2 29) ((oA (oI (oI (oA u 26 g11) 8 (nI 0)) 4 (nI nh)) 5 (cpr ((oI (oI (oA u 26 g11) 8 (nI 0)) 4 (nI nh)).2 28) ((oI (oI (oA u 26 g11) 8 (nI 0)) 4 (nI nh)).2 5) nh)).2 6) nh)).2 30) ((oA (oA (oI (oI (oA u 26 g11) 8 (nI 0)) 4 (nI nh)) 5 (cpr ((oI (oI (oA u 26 g11) 8 (nI 0)) 4 (nI nh)).2 28) ((oI (oI (oA u 26 g11) 8 (nI 0)) 4 (nI nh)).2 5) nh)) 6 (cpr ((oA (oI (oI (oA u 26 g11) 8 (nI 0)) 4 (nI nh)) 5 (cpr ((oI (oI (oA u 26 g11) 8 (nI 0)) 4 (nI nh)).2 28) ((oI (oI (oA u 26 g11) 8 (nI 0)) 4 (nI nh)).2 5) nh)).2 29) ((oA (oI (oI (oA u 26 g11) 8 (nI 0)) 4 (nI nh)) 5 (cpr ((oI (oI (oA u 26 g11) 8 (nI 0)) 4 (nI nh)).2 28) ((oI (oI (oA u 26 g11) 8 (nI 0)) 4 (nI nh)).2 5) nh)).2 6) nh)).2 7) nh)) lt sj) t.heap by rw [ht]; exact hP⟩, hS.F ht⟩) hS.2.2 dX5_leave_74
  · skip
    refine lv_ldc (v := (-1000000003 : Int32)) hx hb hown (hts (.constant RX5 225 (-1000000003)) (List.mem_of_getElem? (i := 2) rfl)) dX5_leave_7 ?_
    exact W.iret (v := (-1000000003 : Int32)) hx hb hr (fun t ht hW => ⟨⟨(-1000000003 : Int32), (u, lt, sj), rfl, ⟨⟨nv, nl, nt, nh, hI0⟩, ⟨rfl, rfl, rfl⟩, rfl, rfl⟩, show PP G (mw G h u lt sj) t.heap by rw [ht]; exact hP⟩, hS.F ht⟩) hS.2.2 dX5_leave_9
set_option maxHeartbeats 1000000 in
set_option maxRecDepth 100000 in
theorem mt_X5_lotBy (l : Launch) (G : gG) (h : Nat → Nat) (sz : Nat) (u : oS) (lt : Int64) (sj : Nat → Int64) (x : Nat) (n0 : Nat) (hlt : lt = lN x) (hxx : x < 2147483647) (hn0 : 0 < n0) (hn1 : n0 < 2147483648) : Met l yX5_lotBy wsX5_lotBy ({ frames := 0, cells := 0, slots := 0, locals := 0 }) (preW G (mw G h u lt sj) sz [.ref (h 0), .int (nI n0)]) (va_Qi (fun (r : Int32) (v : oS × Int64 × (Nat → Int64)) => ∃ y q, y < 2147483647 ∧ q < n0 ∧ v = (u, lN y, sj) ∧ r = nI q) (fun v t => PP G (mw G h v.1 v.2.1 v.2.2) t.heap) (va_A (mw G h u lt sj) sz)) 0 0 (va_A (mw G h u lt sj) sz) := by
  refine Met.ofW (cc := cX5_lotBy) (maxL := 2) (ret := (some .int)) (by decide) rfl ?_
  intro p e s m args below meth c s₁ B hml hv
  obtain ⟨ha, hsz, hP, hK, hN, hD0⟩ := hv
  subst ha
  have hx := B.exec
  have hb := B.bytes
  have hr := B.returns
  have hts := atoms_spec (ws := wsX5_lotBy) B.pre
  have hown : s.vm.findClass RX5 = some m.cls := findClass_of_methodNamed B.named
  have hlocks := B.notSynchronized
  subst hsz
  have hD := hD0.self (sz := s.heap.size)
  generalize hAe : va_A (mw G h u lt sj) s.heap.size = A at hD ⊢
  have hA : ∀ q : Nat, s.heap.size ≤ q → A q := fun q h => by rw [← hAe]; exact Or.inr h
  clear hAe hD0
  have hS : va_S A s.heap s.heap [] := va_S.rf
  have hiX5 : ∀ w ∈ wsX50, w ∈ wsX5_lotBy := by decide +kernel
  have k248 := hts (.fieldLink RX5 248 "WovenHistoryModel" "lot" "J") (List.mem_of_getElem? (i := 1) rfl)
  have hl := lv_entry ([.ref (h 0), .int (nI n0)]) (n := 2) (Nat.le_of_ble_eq_true rfl)
  rw [lg_entry_eq]
  generalize (lg_sl ([.ref (h 0), .int (nI n0)]) ++ List.replicate (2 - (lg_sl ([.ref (h 0), .int (nI n0)])).length) Slot.unset).toArray = ls at hl ⊢
  have hl : lv_has ls 2 [(0, .ref (h 0)), (1, .int (nI n0))] := hl
  subst hlt
  refine lv_aload_n hx hb dX5_lotBy_0 rfl (lv_at hl 0 rfl) ?_
  refine lv_aload_n hx hb dX5_lotBy_1 rfl (lv_at hl 0 rfl) ?_
  refine va_get (D := gD G) (ci := 5) (v := .long (lN x)) (C := RX5) (T := TX5) (N := 38) hx hb hts hiX5 hown hK hP 0 rfl rfl 31 (by decide) k248 (fun _ h9 => h9) rfl dX5_lotBy_2 ?_
  refine lv_ldc2 (v := 16807) hx hb hown (hts (.constantLong RX5 252 (16807)) (List.mem_of_getElem? (i := 2) rfl)) dX5_lotBy_5 ?_
  refine lv_lmul hx hb dX5_lotBy_8 ?_
  refine topLE (y := lN (x * 16807)) (lN_mul x 16807) ?_
  refine lv_ldc2 (v := 2147483647) hx hb hown (hts (.constantLong RX5 254 (2147483647)) (List.mem_of_getElem? (i := 3) rfl)) dX5_lotBy_9 ?_
  refine lv_lrem hx hb dX5_lotBy_12 (by decide) ?_
  refine topLE (y := lN (x * 16807 % 2147483647)) (pk_lRem (a := x * 16807) (b := 2147483647) (by omega) (by omega) (by omega)) ?_
  refine va_put (D := gD G) (ci := 5) (v := .long (lN (x * 16807 % 2147483647))) (ty := .long) (C := RX5) (T := TX5) (N := 38) hx hb hts hiX5 tyX5 tyX5_ok nmX5 hown hK hP hD hS 0 rfl rfl 31 (by decide) k248 (fun _ h9 => h9) rfl (by decide +kernel) (rfl) (rfl) (Nat.le_of_ble_eq_true rfl) dX5_lotBy_13 (fun H locs hP hD hS => ?_)
  have hP : PP G (mw G h u (lN (x * 16807 % 2147483647)) sj) H := hP
  have hD : va_D A (mw G h u (lN (x * 16807 % 2147483647)) sj) := hD
  refine lv_aload_n hx hb dX5_lotBy_16 rfl (lv_at hl 0 rfl) ?_
  refine va_get (D := gD G) (ci := 5) (v := .long (lN (x * 16807 % 2147483647))) (C := RX5) (T := TX5) (N := 38) hx hb hts hiX5 hown hK hP 0 rfl rfl 31 (by decide) k248 (fun _ h9 => h9) rfl dX5_lotBy_17 ?_
  refine lv_iload_n hx hb dX5_lotBy_20 rfl (lv_at hl 1 rfl) ?_
  refine lv_i2l (v := lN n0) hx hb dX5_lotBy_21 (nI_l (by omega)) ?_
  refine lv_lrem hx hb dX5_lotBy_22 (lN_ne0 hn0 hn1) ?_
  refine topLE (y := lN (x * 16807 % 2147483647 % n0)) (pk_lRem (a := x * 16807 % 2147483647) (b := n0) (by omega) (by omega) (by omega)) ?_
  refine lv_l2i (v := (lN (x * 16807 % 2147483647 % n0)).toInt32) hx hb dX5_lotBy_23 rfl ?_
  refine topE (lN_i _) ?_
  exact W.iret (v := nI (x * 16807 % 2147483647 % n0)) hx hb hr (fun t ht hW => ⟨⟨nI (x * 16807 % 2147483647 % n0), (u, lN (x * 16807 % 2147483647), sj), rfl, ⟨x * 16807 % 2147483647, x * 16807 % 2147483647 % n0, by omega, Nat.mod_lt _ hn0, rfl, rfl⟩, show PP G (mw G h u (lN (x * 16807 % 2147483647)) sj) t.heap by rw [ht]; exact hP⟩, hS.F ht⟩) hS.2.2 dX5_lotBy_24
set_option maxHeartbeats 1000000 in
set_option maxRecDepth 100000 in
theorem mt_X5_changeByLots (l : Launch) (G : gG) (h : Nat → Nat) (sz : Nat) (u : oS) (lt : Int64) (sj : Nat → Int64) (nv : Nat) (nl : Nat) (x : Nat) (hnv : u.1 0 = nI nv) (hnl : u.1 4 = nI nl) (hnv24 : nv ≤ 24) (hnl120 : nl ≤ 120) (hpar : parOK (u.2 1) (nv + 1)) (hlt : lt = lN x) (hxx : x < 2147483647) : Met l yX5_changeByLots wsX5_changeByLots ({ frames := 4, cells := 0, slots := 0, locals := 91 }) (preW G (mw G h u lt sj) sz [.ref (h 0)]) (va_Qi (fun (r : Int32) (v : oS × Int64 × (Nat → Int64)) => ∃ n y w, n ≤ 120 ∧ y < 2147483647 ∧ v = (w, lN y, sj) ∧ lnE u w ∧ w.1 4 = nI n ∧ (r = 1 ∨ r = 0)) (fun v t => PP G (mw G h v.1 v.2.1 v.2.2) t.heap) (va_A (mw G h u lt sj) sz)) 0 0 (va_A (mw G h u lt sj) sz) := by
  refine Met.ofW (cc := cX5_changeByLots) (maxL := 3) (ret := (some .boolean)) (by decide) rfl ?_
  intro p e s m args below meth c s₁ B hml hv
  obtain ⟨ha, hsz, hP, hK, hN, hD0⟩ := hv
  subst ha
  have hx := B.exec
  have hb := B.bytes
  have hr := B.returns
  have hts := atoms_spec (ws := wsX5_changeByLots) B.pre
  have hown : s.vm.findClass RX5 = some m.cls := findClass_of_methodNamed B.named
  have hlocks := B.notSynchronized
  subst hsz
  have hD := hD0.self (sz := s.heap.size)
  generalize hAe : va_A (mw G h u lt sj) s.heap.size = A at hD ⊢
  have hA : ∀ q : Nat, s.heap.size ≤ q → A q := fun q h => by rw [← hAe]; exact Or.inr h
  clear hAe hD0
  have hS : va_S A s.heap s.heap [] := va_S.rf
  have hiX5 : ∀ w ∈ wsX50, w ∈ wsX5_changeByLots := by decide +kernel
  have k91 := hts (.fieldLink RX5 91 "WovenHistoryModel" "versions" "I") (List.mem_of_getElem? (i := 1) rfl)
  have k175 := hts (.fieldLink RX5 175 "WovenHistoryModel" "lines" "I") (List.mem_of_getElem? (i := 2) rfl)
  have hl := lv_entry ([.ref (h 0)]) (n := 3) (Nat.le_of_ble_eq_true rfl)
  rw [lg_entry_eq]
  generalize (lg_sl ([.ref (h 0)]) ++ List.replicate (3 - (lg_sl ([.ref (h 0)])).length) Slot.unset).toArray = ls at hl ⊢
  have hl : lv_has ls 3 [(0, .ref (h 0))] := hl
  subst hlt
  refine lv_aload_n hx hb dX5_changeByLots_0 rfl (lv_at hl 0 rfl) ?_
  refine lv_iconst (v := nI 3) hx hb dX5_changeByLots_1 (by decide) ?_
  refine cXi (As := [.int (nI 3)]) (rest := []) (S := oS × Int64 × (Nat → Int64)) (wa := mw G h u (lN x) sj) (w1 := fun v => mw G h v.1 v.2.1 v.2.2) ⟨hx, hb, hml, hown, hts⟩ (mt_X5_lotBy l G h _ u (lN x) sj x 3 (rfl) (by first | assumption | omega) (by first | assumption | omega) (by first | assumption | omega)) (cwV 1 hts gX5_changeByLots_X5_lotBy rfl rfl rfl (by decide +kernel) ⟨Nat.le_of_ble_eq_true rfl, Nat.le_of_ble_eq_true rfl⟩) hK hN hP hD hS hA (fun _ => rfl) 0 5 rfl rfl rfl hl.1 rfl (Nat.le_of_ble_eq_true rfl) ⟨Nat.zero_le _, Nat.zero_le _⟩ dX5_changeByLots_2 (fun r2 u2 H locs hw2 hP hD hS => ?_)
  obtain ⟨y2, q2, hy2, hq2, rfl, rfl⟩ := hw2
  have hP : PP G (mw G h u (lN y2) sj) H := hP
  have hD : va_D A (mw G h u (lN y2) sj) := hD
  refine lv_iconst (v := nI 2) hx hb dX5_changeByLots_5 (by decide) ?_
  refine lv_icmp_ne (tgt := 46) hx hb dX5_changeByLots_6 (by decide) (fun c6 => ?_) (fun c6 => ?_)
  · skip
    have n6 : ¬ (q2 = 2) := fun q9 => c6 ((nI_eq (a := q2) (b := 2) (by omega) (by omega)).mpr q9)
    refine lv_aload_n hx hb dX5_changeByLots_46 rfl (lv_at hl 0 rfl) ?_
    refine va_get (D := gD G) (ci := 5) (v := .int (u.1 4)) (C := RX5) (T := TX5) (N := 38) hx hb hts hiX5 hown hK hP 0 rfl rfl 4 (by decide) k175 (fun _ h9 => h9) rfl dX5_changeByLots_47 ?_
    refine topE hnl ?_
    refine lv_bipush (v := nI 120) hx hb dX5_changeByLots_50 (by decide) ?_
    refine lv_icmp_ne (tgt := 57) hx hb dX5_changeByLots_52 (by decide) (fun c52 => ?_) (fun c52 => ?_)
    · skip
      have n52 : ¬ (nl = 120) := fun q9 => c52 ((nI_eq (a := nl) (b := 120) (by omega) (by omega)).mpr q9)
      refine lv_bipush (v := nI 65) hx hb dX5_changeByLots_57 (by decide) ?_
      refine lv_aload_n hx hb dX5_changeByLots_59 rfl (lv_at hl 0 rfl) ?_
      refine lv_bipush (v := nI 26) hx hb dX5_changeByLots_60 (by decide) ?_
      refine cXi (As := [.int (nI 26)]) (rest := [.int (nI 65)]) (S := oS × Int64 × (Nat → Int64)) (wa := mw G h u (lN y2) sj) (w1 := fun v => mw G h v.1 v.2.1 v.2.2) ⟨hx, hb, hml, hown, hts⟩ (mt_X5_lotBy l G h _ u (lN y2) sj y2 26 (rfl) (by first | assumption | omega) (by first | assumption | omega) (by first | assumption | omega)) (cwV 1 hts gX5_changeByLots_X5_lotBy rfl rfl rfl (by decide +kernel) ⟨Nat.le_of_ble_eq_true rfl, Nat.le_of_ble_eq_true rfl⟩) hK hN hP hD hS hA (fun _ => rfl) 0 5 rfl rfl rfl hl.1 rfl (Nat.le_of_ble_eq_true rfl) ⟨Nat.zero_le _, Nat.zero_le _⟩ dX5_changeByLots_62 (fun r62 u62 H locs hw62 hP hD hS => ?_)
      obtain ⟨y62, q62, hy62, hq62, rfl, rfl⟩ := hw62
      have hP : PP G (mw G h u (lN y62) sj) H := hP
      have hD : va_D A (mw G h u (lN y62) sj) := hD
      refine lv_iadd hx hb dX5_changeByLots_65 ?_
      refine topE (y := nI (65 + q62)) (nI_add 65 q62) ?_
      refine lv_istore_n (lv' := [(1, .int (nI (65 + q62))), (0, .ref (h 0))]) hx hb dX5_changeByLots_66 rfl hl (by decide) rfl (fun ls hl => ?_)
      refine lv_aload_n hx hb dX5_changeByLots_67 rfl (lv_at hl 1 rfl) ?_
      refine lv_aload_n hx hb dX5_changeByLots_68 rfl (lv_at hl 1 rfl) ?_
      refine lv_aload_n hx hb dX5_changeByLots_69 rfl (lv_at hl 1 rfl) ?_
      have hP := mw_self26 hP
      have hD : va_D A (mw G h (oA u 26 (u.2 26)) (lN y62) sj) := mw_self26D hD
      refine cXi (As := []) (rest := [.ref (h 0), .ref (h 0)]) (S := oS × Int64 × (Nat → Int64)) (wa := mw G h (oA u 26 (u.2 26)) (lN y62) sj) (w1 := fun v => mw G h v.1 v.2.1 v.2.2) ⟨hx, hb, hml, hown, hts⟩ (mt_X5_openLines l G h _ u (lN y62) sj (u.2 26) nv nl (hnv) (hnl) (by first | assumption | omega) (by first | assumption | omega) (by first | assumption | omega)) (cwV 0 hts gX5_changeByLots_X5_openLines rfl rfl rfl (by decide +kernel) ⟨Nat.le_of_ble_eq_true rfl, Nat.le_of_ble_eq_true rfl⟩) hK hN hP hD hS hA (fun _ => rfl) 0 5 rfl rfl rfl hl.1 rfl (Nat.le_of_ble_eq_true rfl) ⟨Nat.zero_le _, Nat.zero_le _⟩ dX5_changeByLots_70 (fun r70 u70 H locs hw70 hP hD hS => ?_)
      obtain ⟨g70, rfl, rfl⟩ := hw70
      have hP : PP G (mw G h (oA u 26 g70) (lN y62) sj) H := hP
      have hD : va_D A (mw G h (oA u 26 g70) (lN y62) sj) := hD
      have hc70 := cnt_le (sdb (u.2 6) (u.2 7) (chV (u.2 1) (u.2 2) (u.2 3) (nI nv))) nl
      refine lv_iconst (v := nI 1) hx hb dX5_changeByLots_73 (by decide) ?_
      refine lv_iadd hx hb dX5_changeByLots_74 ?_
      refine topE (y := nI ((cnt (sdb (u.2 6) (u.2 7) (chV (u.2 1) (u.2 2) (u.2 3) (nI nv))) nl) + 1)) (nI_add (cnt (sdb (u.2 6) (u.2 7) (chV (u.2 1) (u.2 2) (u.2 3) (nI nv))) nl) 1) ?_
      refine cXi (As := [.int (nI ((cnt (sdb (u.2 6) (u.2 7) (chV (u.2 1) (u.2 2) (u.2 3) (nI nv))) nl) + 1))]) (rest := [.ref (h 0)]) (S := oS × Int64 × (Nat → Int64)) (wa := mw G h (oA u 26 g70) (lN y62) sj) (w1 := fun v => mw G h v.1 v.2.1 v.2.2) ⟨hx, hb, hml, hown, hts⟩ (mt_X5_lotBy l G h _ (oA u 26 g70) (lN y62) sj y62 ((cnt (sdb (u.2 6) (u.2 7) (chV (u.2 1) (u.2 2) (u.2 3) (nI nv))) nl) + 1) (rfl) (by first | assumption | omega) (by first | assumption | omega) (by first | assumption | omega)) (cwV 1 hts gX5_changeByLots_X5_lotBy rfl rfl rfl (by decide +kernel) ⟨Nat.le_of_ble_eq_true rfl, Nat.le_of_ble_eq_true rfl⟩) hK hN hP hD hS hA (fun _ => rfl) 0 5 rfl rfl rfl hl.1 rfl (Nat.le_of_ble_eq_true rfl) ⟨Nat.zero_le _, Nat.zero_le _⟩ dX5_changeByLots_75 (fun r75 u75 H locs hw75 hP hD hS => ?_)
      obtain ⟨y75, q75, hy75, hq75, rfl, rfl⟩ := hw75
      have hP : PP G (mw G h (oA u 26 g70) (lN y75) sj) H := hP
      have hD : va_D A (mw G h (oA u 26 g70) (lN y75) sj) := hD
      refine lv_iload_n hx hb dX5_changeByLots_78 rfl (lv_at hl 0 rfl) ?_
      refine cXi (As := [.int (nI (q75)), .int (nI (65 + q62))]) (rest := []) (S := oS × Int64 × (Nat → Int64)) (wa := mw G h (oA u 26 g70) (lN y75) sj) (w1 := fun v => mw G h v.1 v.2.1 v.2.2) ⟨hx, hb, hml, hown, hts⟩ (mt_X5_putNow l G h _ (oA u 26 g70) (lN y75) sj nv nl q75 (nI (65 + q62)) (hnv) (hnl) (by first | assumption | omega) (by first | assumption | omega) (by first | assumption | omega) (by first | assumption | omega)) (cwV 2 hts gX5_changeByLots_X5_putNow rfl rfl rfl (by decide +kernel) ⟨Nat.le_of_ble_eq_true rfl, Nat.le_of_ble_eq_true rfl⟩) hK hN hP hD hS hA (fun _ => rfl) 0 5 rfl rfl rfl hl.1 rfl (Nat.le_of_ble_eq_true rfl) ⟨Nat.zero_le _, Nat.zero_le _⟩ dX5_changeByLots_79 (fun r79 u79 H locs hw79 hP hD hS => ?_)
      obtain ⟨g79, f579, f679, f779, rfl, a79, ha79, rfl⟩ := hw79
      have hP : PP G (mw G h (oI (ln3 (oA (oA u 26 g70) 26 g79) f579 f679 f779) 4 (nI (nl + 1))) (lN y75) sj) H := hP
      have hD : va_D A (mw G h (oI (ln3 (oA (oA u 26 g70) 26 g79) f579 f679 f779) 4 (nI (nl + 1))) (lN y75) sj) := hD
      refine lv_istore_n (lv' := [(2, .int (nI (a79))), (1, .int (nI (65 + q62))), (0, .ref (h 0))]) hx hb dX5_changeByLots_82 rfl hl (by decide) rfl (fun ls hl => ?_)
      refine lv_iconst (v := nI 1) hx hb dX5_changeByLots_83 (by decide) ?_
      exact W.zret (v := nI 1) hx hb hr (by decide) (fun t ht hW => ⟨⟨nI 1, (oI (ln3 (oA (oA u 26 g70) 26 g79) f579 f679 f779) 4 (nI (nl + 1)), lN y75, sj), rfl, ⟨nl + 1, _, _, by omega, by assumption, rfl, by first | exact lnE.refl _ | exact lnE_ch _ _ | exact ((lnE_ch _ _).trans (lnE_3 _ _ _ _)).trans (lnE_4 _ _) | exact (((lnE_ch _ _).trans (lnE_ch _ _)).trans (lnE_3 _ _ _ _)).trans (lnE_4 _ _) | exact (lnE_ch _ _).trans (lnE_3 _ _ _ _), rfl, Or.inl rfl⟩, show PP G (mw G h (oI (ln3 (oA (oA u 26 g70) 26 g79) f579 f679 f779) 4 (nI (nl + 1))) (lN y75) sj) t.heap by rw [ht]; exact hP⟩, hS.F ht⟩) hS.2.2 dX5_changeByLots_84
    · skip
      have n52 : nl = 120 := (nI_eq (a := nl) (b := 120) (by omega) (by omega)).mp c52
      refine lv_iconst (v := nI 0) hx hb dX5_changeByLots_55 (by decide) ?_
      exact W.zret (v := nI 0) hx hb hr (by decide) (fun t ht hW => ⟨⟨nI 0, (u, lN y2, sj), rfl, ⟨nl, _, _, hnl120, by assumption, rfl, lnE.refl _, hnl, Or.inr rfl⟩, show PP G (mw G h u (lN y2) sj) t.heap by rw [ht]; exact hP⟩, hS.F ht⟩) hS.2.2 dX5_changeByLots_56
  · skip
    have n6 : q2 = 2 := (nI_eq (a := q2) (b := 2) (by omega) (by omega)).mp c6
    refine lv_aload_n hx hb dX5_changeByLots_9 rfl (lv_at hl 0 rfl) ?_
    have hP := mw_self26 hP
    have hD : va_D A (mw G h (oA u 26 (u.2 26)) (lN y2) sj) := mw_self26D hD
    refine cXi (As := []) (rest := []) (S := oS × Int64 × (Nat → Int64)) (wa := mw G h (oA u 26 (u.2 26)) (lN y2) sj) (w1 := fun v => mw G h v.1 v.2.1 v.2.2) ⟨hx, hb, hml, hown, hts⟩ (mt_X5_openLines l G h _ u (lN y2) sj (u.2 26) nv nl (hnv) (hnl) (by first | assumption | omega) (by first | assumption | omega) (by first | assumption | omega)) (cwV 0 hts gX5_changeByLots_X5_openLines rfl rfl rfl (by decide +kernel) ⟨Nat.le_of_ble_eq_true rfl, Nat.le_of_ble_eq_true rfl⟩) hK hN hP hD hS hA (fun _ => rfl) 0 5 rfl rfl rfl hl.1 rfl (Nat.le_of_ble_eq_true rfl) ⟨Nat.zero_le _, Nat.zero_le _⟩ dX5_changeByLots_10 (fun r10 u10 H locs hw10 hP hD hS => ?_)
    obtain ⟨g10, rfl, rfl⟩ := hw10
    have hP : PP G (mw G h (oA u 26 g10) (lN y2) sj) H := hP
    have hD : va_D A (mw G h (oA u 26 g10) (lN y2) sj) := hD
    have hc10 := cnt_le (sdb (u.2 6) (u.2 7) (chV (u.2 1) (u.2 2) (u.2 3) (nI nv))) nl
    refine lv_istore_n (lv' := [(1, .int (nI (cnt (sdb (u.2 6) (u.2 7) (chV (u.2 1) (u.2 2) (u.2 3) (nI nv))) nl))), (0, .ref (h 0))]) hx hb dX5_changeByLots_13 rfl hl (by decide) rfl (fun ls hl => ?_)
    refine lv_iload_n hx hb dX5_changeByLots_14 rfl (lv_at hl 0 rfl) ?_
    refine lv_if_le (tgt := 42) hx hb dX5_changeByLots_15 (by decide) (fun c15 => ?_) (fun c15 => ?_)
    · skip
      have n15 : (cnt (sdb (u.2 6) (u.2 7) (chV (u.2 1) (u.2 2) (u.2 3) (nI nv))) nl) ≤ 0 := (nI_leI (a := cnt (sdb (u.2 6) (u.2 7) (chV (u.2 1) (u.2 2) (u.2 3) (nI nv))) nl) (b := 0) (by omega) (by omega)).mp c15
      refine lv_iconst (v := nI 0) hx hb dX5_changeByLots_42 (by decide) ?_
      refine lv_istore_n (lv' := [(2, .int (nI 0)), (1, .int (nI (cnt (sdb (u.2 6) (u.2 7) (chV (u.2 1) (u.2 2) (u.2 3) (nI nv))) nl))), (0, .ref (h 0))]) hx hb dX5_changeByLots_43 rfl hl (by decide) rfl (fun ls hl => ?_)
      refine lv_iconst (v := nI 1) hx hb dX5_changeByLots_44 (by decide) ?_
      exact W.zret (v := nI 1) hx hb hr (by decide) (fun t ht hW => ⟨⟨nI 1, (oA u 26 g10, lN y2, sj), rfl, ⟨nl, _, _, hnl120, by assumption, rfl, lnE_ch _ _, hnl, Or.inl rfl⟩, show PP G (mw G h (oA u 26 g10) (lN y2) sj) t.heap by rw [ht]; exact hP⟩, hS.F ht⟩) hS.2.2 dX5_changeByLots_45
    · skip
      have n15 : ¬ ((cnt (sdb (u.2 6) (u.2 7) (chV (u.2 1) (u.2 2) (u.2 3) (nI nv))) nl) ≤ 0) := fun q9 => c15 ((nI_leI (a := cnt (sdb (u.2 6) (u.2 7) (chV (u.2 1) (u.2 2) (u.2 3) (nI nv))) nl) (b := 0) (by omega) (by omega)).mpr q9)
      refine lv_aload_n hx hb dX5_changeByLots_18 rfl (lv_at hl 1 rfl) ?_
      refine lv_aload_n hx hb dX5_changeByLots_19 rfl (lv_at hl 1 rfl) ?_
      refine lv_aload_n hx hb dX5_changeByLots_20 rfl (lv_at hl 1 rfl) ?_
      refine lv_aload_n hx hb dX5_changeByLots_21 rfl (lv_at hl 1 rfl) ?_
      refine va_get (D := gD G) (ci := 5) (v := .int (u.1 0)) (C := RX5) (T := TX5) (N := 38) hx hb hts hiX5 hown hK hP 0 rfl rfl 0 (by decide) k91 (fun _ h9 => h9) rfl dX5_changeByLots_22 ?_
      refine topE hnv ?_
      refine cXi (As := [.int (nI nv)]) (rest := [.ref (h 0), .ref (h 0)]) (S := oS × Int64 × (Nat → Int64)) (wa := mw G h (oA u 26 g10) (lN y2) sj) (w1 := fun v => mw G h v.1 v.2.1 v.2.2) ⟨hx, hb, hml, hown, hts⟩ (mt_X5_changesOf l G h _ u (lN y2) sj g10 nv (by first | assumption | omega) (by first | assumption | omega)) (cwV 1 hts gX5_changeByLots_X5_changesOf rfl rfl rfl (by decide +kernel) ⟨Nat.le_of_ble_eq_true rfl, Nat.le_of_ble_eq_true rfl⟩) hK hN hP hD hS hA (fun _ => rfl) 0 5 rfl rfl rfl hl.1 rfl (Nat.le_of_ble_eq_true rfl) ⟨Nat.zero_le _, Nat.zero_le _⟩ dX5_changeByLots_25 (fun r25 u25 H locs hw25 hP hD hS => ?_)
      obtain ⟨g25, rfl, rfl⟩ := hw25
      have hP : PP G (mw G h (oA u 26 g25) (lN y2) sj) H := hP
      have hD : va_D A (mw G h (oA u 26 g25) (lN y2) sj) := hD
      refine lv_aload_n hx hb dX5_changeByLots_28 rfl (lv_at hl 1 rfl) ?_
      refine lv_iload_n hx hb dX5_changeByLots_29 rfl (lv_at hl 0 rfl) ?_
      refine cXi (As := [.int (nI (cnt (sdb (u.2 6) (u.2 7) (chV (u.2 1) (u.2 2) (u.2 3) (nI nv))) nl))]) (rest := [.int (chV (u.2 1) (u.2 2) (u.2 3) (nI nv)), .ref (h 0), .ref (h 0)]) (S := oS × Int64 × (Nat → Int64)) (wa := mw G h (oA u 26 g25) (lN y2) sj) (w1 := fun v => mw G h v.1 v.2.1 v.2.2) ⟨hx, hb, hml, hown, hts⟩ (mt_X5_lotBy l G h _ (oA u 26 g25) (lN y2) sj y2 (cnt (sdb (u.2 6) (u.2 7) (chV (u.2 1) (u.2 2) (u.2 3) (nI nv))) nl) (rfl) (by first | assumption | omega) (by first | assumption | omega) (by first | assumption | omega)) (cwV 1 hts gX5_changeByLots_X5_lotBy rfl rfl rfl (by decide +kernel) ⟨Nat.le_of_ble_eq_true rfl, Nat.le_of_ble_eq_true rfl⟩) hK hN hP hD hS hA (fun _ => rfl) 0 5 rfl rfl rfl hl.1 rfl (Nat.le_of_ble_eq_true rfl) ⟨Nat.zero_le _, Nat.zero_le _⟩ dX5_changeByLots_30 (fun r30 u30 H locs hw30 hP hD hS => ?_)
      obtain ⟨y30, q30, hy30, hq30, rfl, rfl⟩ := hw30
      have hP : PP G (mw G h (oA u 26 g25) (lN y30) sj) H := hP
      have hD : va_D A (mw G h (oA u 26 g25) (lN y30) sj) := hD
      refine cRi (w := mw G h (oA u 26 g25) (lN y30) sj) (As := [.int (chV (u.2 1) (u.2 2) (u.2 3) (nI nv)), .int (nI (q30))]) (rest := [.ref (h 0)]) ⟨hx, hb, hml, hown, hts⟩ (mt_X5_lineAt l G h (oA u 26 g25) (lN y30) sj nl (chV (u.2 1) (u.2 2) (u.2 3) (nI nv)) q30 (hnl) (by first | assumption | omega) (by omega)) (cwV 2 hts gX5_changeByLots_X5_lineAt rfl rfl rfl (by decide +kernel) ⟨Nat.le_of_ble_eq_true rfl, Nat.le_of_ble_eq_true rfl⟩) hK hN hP 0 5 rfl rfl rfl hl.1 rfl (Nat.le_of_ble_eq_true rfl) ⟨Nat.zero_le _, Nat.zero_le _⟩ dX5_changeByLots_33 (fun r33 hw33 => ?_)
      rcases hw33 with ⟨i33, hi33, hp33, hq33, rfl⟩ | ⟨hq33, rfl⟩
      · skip
        refine cXi (As := [.int (nI i33)]) (rest := []) (S := oS × Int64 × (Nat → Int64)) (wa := mw G h (oA u 26 g25) (lN y30) sj) (w1 := fun v => mw G h v.1 v.2.1 v.2.2) ⟨hx, hb, hml, hown, hts⟩ (mt_X5_takeNow l G h _ (oA u 26 g25) (lN y30) sj nv nl i33 (hnv) (hnl) (by first | assumption | omega) (by first | assumption | omega) (by first | assumption | omega)) (cwV 1 hts gX5_changeByLots_X5_takeNow rfl rfl rfl (by decide +kernel) ⟨Nat.le_of_ble_eq_true rfl, Nat.le_of_ble_eq_true rfl⟩) hK hN hP hD hS hA (fun _ => rfl) 0 5 rfl rfl rfl hl.1 rfl (Nat.le_of_ble_eq_true rfl) ⟨Nat.zero_le _, Nat.zero_le _⟩ dX5_changeByLots_36 (fun r36 u36 H locs hw36 hP hD hS => ?_)
        rcases hw36 with ⟨f536, f636, f736, rfl⟩ | ⟨f536, f636, f736, rfl⟩
        · skip
          have hP : PP G (mw G h (ln3 (oA u 26 g25) f536 f636 f736) (lN y30) sj) H := hP
          have hD : va_D A (mw G h (ln3 (oA u 26 g25) f536 f636 f736) (lN y30) sj) := hD
          refine lv_goto (tgt := 43) hx hb dX5_changeByLots_39 (by decide) ?_
          refine lv_istore_n (lv' := [(2, .int r36), (1, .int (nI (cnt (sdb (u.2 6) (u.2 7) (chV (u.2 1) (u.2 2) (u.2 3) (nI nv))) nl))), (0, .ref (h 0))]) hx hb dX5_changeByLots_43 rfl hl (by decide) rfl (fun ls hl => ?_)
          refine lv_iconst (v := nI 1) hx hb dX5_changeByLots_44 (by decide) ?_
          exact W.zret (v := nI 1) hx hb hr (by decide) (fun t ht hW => ⟨⟨nI 1, (ln3 (oA u 26 g25) f536 f636 f736, lN y30, sj), rfl, ⟨nl, _, _, hnl120, by assumption, rfl, (lnE_ch _ _).trans (lnE_3 _ _ _ _), hnl, Or.inl rfl⟩, show PP G (mw G h (ln3 (oA u 26 g25) f536 f636 f736) (lN y30) sj) t.heap by rw [ht]; exact hP⟩, hS.F ht⟩) hS.2.2 dX5_changeByLots_45
        · skip
          have hP : PP G (mw G h (oI (ln3 (oA u 26 g25) f536 f636 f736) 4 (nI (nl - 1))) (lN y30) sj) H := hP
          have hD : va_D A (mw G h (oI (ln3 (oA u 26 g25) f536 f636 f736) 4 (nI (nl - 1))) (lN y30) sj) := hD
          refine lv_goto (tgt := 43) hx hb dX5_changeByLots_39 (by decide) ?_
          refine lv_istore_n (lv' := [(2, .int r36), (1, .int (nI (cnt (sdb (u.2 6) (u.2 7) (chV (u.2 1) (u.2 2) (u.2 3) (nI nv))) nl))), (0, .ref (h 0))]) hx hb dX5_changeByLots_43 rfl hl (by decide) rfl (fun ls hl => ?_)
          refine lv_iconst (v := nI 1) hx hb dX5_changeByLots_44 (by decide) ?_
          exact W.zret (v := nI 1) hx hb hr (by decide) (fun t ht hW => ⟨⟨nI 1, (oI (ln3 (oA u 26 g25) f536 f636 f736) 4 (nI (nl - 1)), lN y30, sj), rfl, ⟨nl - 1, _, _, by omega, by assumption, rfl, by first | exact lnE.refl _ | exact lnE_ch _ _ | exact ((lnE_ch _ _).trans (lnE_3 _ _ _ _)).trans (lnE_4 _ _) | exact (((lnE_ch _ _).trans (lnE_ch _ _)).trans (lnE_3 _ _ _ _)).trans (lnE_4 _ _) | exact (lnE_ch _ _).trans (lnE_3 _ _ _ _), rfl, Or.inl rfl⟩, show PP G (mw G h (oI (ln3 (oA u 26 g25) f536 f636 f736) 4 (nI (nl - 1))) (lN y30) sj) t.heap by rw [ht]; exact hP⟩, hS.F ht⟩) hS.2.2 dX5_changeByLots_45
      · skip
        exact absurd hq30 (Nat.not_lt.mpr hq33)
set_option maxHeartbeats 1000000 in
set_option maxRecDepth 100000 in
theorem mt_X5_drift (l : Launch) (G : gG) (h : Nat → Nat) (sz : Nat) (u : oS) (lt : Int64) (sj : Nat → Int64) (a : Int32) (b : Int32) (nv nl nt nh : Nat) (hI : MIx u nv nl nt nh) : Met l yX5_drift wsX5_drift ({ frames := 5, cells := 0, slots := 0, locals := 113 }) (preW G (mw G h u lt sj) sz [.ref (h 0), .int a, .int b]) (va_Qi (fun (r : Int32) (v : oS × Int64 × (Nat → Int64)) => MIk u v.1) (fun v t => PP G (mw G h v.1 v.2.1 v.2.2) t.heap) (va_A (mw G h u lt sj) sz)) 0 0 (va_A (mw G h u lt sj) sz) := by
  refine Met.ofW (cc := cX5_drift) (maxL := 6) (ret := (some .int)) (by decide) rfl ?_
  intro p e s m args below meth c s₁ B hml hv
  obtain ⟨ha, hsz, hP, hK, hN, hD0⟩ := hv
  subst ha
  have hx := B.exec
  have hb := B.bytes
  have hr := B.returns
  have hts := atoms_spec (ws := wsX5_drift) B.pre
  have hown : s.vm.findClass RX5 = some m.cls := findClass_of_methodNamed B.named
  have hlocks := B.notSynchronized
  subst hsz
  have hD := hD0.self (sz := s.heap.size)
  generalize hAe : va_A (mw G h u lt sj) s.heap.size = A at hD ⊢
  have hA : ∀ q : Nat, s.heap.size ≤ q → A q := fun q h => by rw [← hAe]; exact Or.inr h
  clear hAe hD0
  have hS : va_S A s.heap s.heap [] := va_S.rf
  have hiX5 : ∀ w ∈ wsX50, w ∈ wsX5_drift := by decide +kernel
  have k178 := hts (.fieldLink RX5 178 "WovenHistoryModel" "isOpen" "Z") (List.mem_of_getElem? (i := 4) rfl)
  have k91 := hts (.fieldLink RX5 91 "WovenHistoryModel" "versions" "I") (List.mem_of_getElem? (i := 5) rfl)
  have k248 := hts (.fieldLink RX5 248 "WovenHistoryModel" "lot" "J") (List.mem_of_getElem? (i := 7) rfl)
  have hl := lv_entry ([.ref (h 0), .int a, .int b]) (n := 6) (Nat.le_of_ble_eq_true rfl)
  rw [lg_entry_eq]
  generalize (lg_sl ([.ref (h 0), .int a, .int b]) ++ List.replicate (6 - (lg_sl ([.ref (h 0), .int a, .int b])).length) Slot.unset).toArray = ls at hl ⊢
  have hl : lv_has ls 6 [(0, .ref (h 0)), (1, .int a), (2, .int b)] := hl
  have hI0 := hI
  obtain ⟨hnv, hnl, hnt, hnh, hnv24, hnl120, hnt240, hnh120, hop, hopn, hparV, hsz4, himg⟩ := hI
  refine lv_iload_n hx hb dX5_drift_0 rfl (lv_at hl 1 rfl) ?_
  refine lv_i2l (v := a.toInt64) hx hb dX5_drift_1 rfl ?_
  refine lv_lconst (v := 1) hx hb dX5_drift_2 (by decide) ?_
  refine lv_ldc2 (v := 24) hx hb hown (hts (.constantLong RX5 259 (24)) (List.mem_of_getElem? (i := 1) rfl)) dX5_drift_3 ?_
  refine cSi (As := [.long a.toInt64, .long 1, .long 24]) (rest := []) ⟨hx, hb, hml, hown, hts⟩ (mt_X5_in l a.toInt64 1 24) (va_cwS 3 hts gX5_drift_X5_in rfl rfl rfl (by decide +kernel) ⟨Nat.le_of_ble_eq_true rfl, Nat.le_of_ble_eq_true rfl⟩) rfl hl.1 rfl (Nat.le_of_ble_eq_true rfl) ⟨Nat.zero_le _, Nat.zero_le _⟩ dX5_drift_6 (fun r6 hw6 => ?_)
  rcases hw6 with ⟨rfl, ha6, hb6⟩ | ⟨rfl, hn6⟩
  · skip
    obtain ⟨a1, ha1, ha2, rfl⟩ := rng_y (a := 1) (b := 24) (by decide) (by decide) (by omega) ha6 hb6
    refine lv_if_eq (tgt := 24) hx hb dX5_drift_9 (by decide) (fun c9 => absurd c9 (by decide)) (fun _ => ?_)
    refine lv_iload_n hx hb dX5_drift_12 rfl (lv_at hl 2 rfl) ?_
    refine lv_i2l (v := b.toInt64) hx hb dX5_drift_13 rfl ?_
    refine lv_lconst (v := 1) hx hb dX5_drift_14 (by decide) ?_
    refine lv_ldc2 (v := 999999) hx hb hown (hts (.constantLong RX5 261 (999999)) (List.mem_of_getElem? (i := 2) rfl)) dX5_drift_15 ?_
    refine cSi (As := [.long b.toInt64, .long 1, .long 999999]) (rest := []) ⟨hx, hb, hml, hown, hts⟩ (mt_X5_in l b.toInt64 1 999999) (va_cwS 3 hts gX5_drift_X5_in rfl rfl rfl (by decide +kernel) ⟨Nat.le_of_ble_eq_true rfl, Nat.le_of_ble_eq_true rfl⟩) rfl hl.1 rfl (Nat.le_of_ble_eq_true rfl) ⟨Nat.zero_le _, Nat.zero_le _⟩ dX5_drift_18 (fun r18 hw18 => ?_)
    rcases hw18 with ⟨rfl, ha18, hb18⟩ | ⟨rfl, hn18⟩
    · skip
      obtain ⟨b1, hb1, hb2, rfl⟩ := rng_y (a := 1) (b := 999999) (by decide) (by decide) (by omega) ha18 hb18
      refine lv_if_ne (tgt := 27) hx hb dX5_drift_21 (by decide) (fun _ => ?_) (fun c9 => absurd c9 (by decide))
      refine lv_aload_n hx hb dX5_drift_27 rfl (lv_at hl 0 rfl) ?_
      refine va_get (D := gD G) (ci := 5) (v := .int (u.1 8)) (C := RX5) (T := TX5) (N := 38) hx hb hts hiX5 hown hK hP 0 rfl rfl 8 (by decide) k178 (fun _ h9 => h9) rfl dX5_drift_28 ?_
      refine lv_if_ne (tgt := 41) hx hb dX5_drift_31 (by decide) (fun c31 => ?_) (fun c31 => ?_)
      · skip
        refine lv_ldc (v := (-1000000003 : Int32)) hx hb hown (hts (.constant RX5 225 (-1000000003)) (List.mem_of_getElem? (i := 6) rfl)) dX5_drift_41 ?_
        exact W.iret (v := (-1000000003 : Int32)) hx hb hr (fun t ht hW => ⟨⟨(-1000000003 : Int32), (u, lt, sj), rfl, ⟨⟨nv, nl, nt, nh, hI0⟩, ⟨rfl, rfl, rfl⟩, rfl, rfl⟩, show PP G (mw G h u lt sj) t.heap by rw [ht]; exact hP⟩, hS.F ht⟩) hS.2.2 dX5_drift_43
      · skip
        refine lv_aload_n hx hb dX5_drift_34 rfl (lv_at hl 0 rfl) ?_
        refine va_get (D := gD G) (ci := 5) (v := .int (u.1 0)) (C := RX5) (T := TX5) (N := 38) hx hb hts hiX5 hown hK hP 0 rfl rfl 0 (by decide) k91 (fun _ h9 => h9) rfl dX5_drift_35 ?_
        refine topE hnv ?_
        refine lv_if_ne (tgt := 44) hx hb dX5_drift_38 (by decide) (fun c38 => ?_) (fun c38 => ?_)
        · skip
          have n38 : ¬ (nv = 0) := fun q9 => c38 ((nI_eq (a := nv) (b := 0) (by omega) (by omega)).mpr q9)
          refine lv_aload_n hx hb dX5_drift_44 rfl (lv_at hl 0 rfl) ?_
          refine lv_iload_n hx hb dX5_drift_45 rfl (lv_at hl 2 rfl) ?_
          refine lv_i2l (v := lN b1) hx hb dX5_drift_46 (nI_l (by omega)) ?_
          refine va_put (D := gD G) (ci := 5) (v := .long (lN b1)) (ty := .long) (C := RX5) (T := TX5) (N := 38) hx hb hts hiX5 tyX5 tyX5_ok nmX5 hown hK hP hD hS 0 rfl rfl 31 (by decide) k248 (fun _ h9 => h9) rfl (by decide +kernel) (rfl) (rfl) (Nat.le_of_ble_eq_true rfl) dX5_drift_47 (fun H locs hP hD hS => ?_)
          have hP : PP G (mw G h u (lN b1) sj) H := hP
          have hD : va_D A (mw G h u (lN b1) sj) := hD
          refine lv_iconst (v := nI 1) hx hb dX5_drift_50 (by decide) ?_
          refine lv_istore_n (lv' := [(3, .int (nI 1)), (0, .ref (h 0)), (1, .int (nI a1)), (2, .int (nI b1))]) hx hb dX5_drift_51 rfl hl (by decide) rfl (fun ls hl => ?_)
          refine lv_iconst (v := nI 0) hx hb dX5_drift_52 (by decide) ?_
          refine lv_istore (lv' := [(4, .int (nI 0)), (3, .int (nI 1)), (0, .ref (h 0)), (1, .int (nI a1)), (2, .int (nI b1))]) hx hb dX5_drift_53 hl (by decide) rfl (fun ls hl => ?_)
          have LP55 : ∀ (n55m : Nat), ∀ (k : Nat) (gg : Int32) (uu : oS) (nv1 : Nat) (nl1 : Nat) (nh1 : Nat) (y : Nat) (hM : MIx uu nv1 nl1 nt nh1) (hkp : kp5 u uu) (hv1 : nv1 ≤ 24) (hgg : gg = 0 ∨ gg = 1) (hv0 : 0 < nv1) (hk : k ≤ a1) (hyy : y < 2147483647), (a1 - k < n55m) → ∀ (H : Heap) (locs : List Loc) (ls : Array Slot), PP G (mw G h uu (lN y) sj) H → va_D A (mw G h uu (lN y) sj) → va_S A s.heap H locs → lv_has ls 6 [(0, .ref (h 0)), (1, .int (nI a1)), (3, .int gg), (4, .int (nI k))] → W p l e (headSpec wsX5_drift ({ frames := 5, cells := 0, slots := 0, locals := 113 })).room s m ([.ref (h 0), .int (nI a1), .int (nI b1)] : List Value).toArray below meth c H locs 0 0 (MQ below (va_Qi (fun (r : Int32) (v : oS × Int64 × (Nat → Int64)) => MIk u v.1) (fun v t => PP G (mw G h v.1 v.2.1 v.2.2) t.heap) A) ([.ref (h 0), .int (nI a1), .int (nI b1)] : List Value).toArray s 0 0 A) (F0 m 55 ls []) := by
            intro n55m
            induction n55m with
            | zero => intro k gg uu nv1 nl1 nh1 y hM hkp hv1 hgg hv0 hk hyy hmu H locs ls hP hD hS hl; exact absurd hmu (Nat.not_lt_zero _)
            | succ n55m ih55 =>
              intro k gg uu nv1 nl1 nh1 y hM hkp hv1 hgg hv0 hk hyy hmu H locs ls hP hD hS hl
              refine lv_iload hx hb dX5_drift_55 (lv_at hl 3 rfl) ?_
              refine lv_iload_n hx hb dX5_drift_57 rfl (lv_at hl 1 rfl) ?_
              refine lv_icmp_ge (tgt := 131) hx hb dX5_drift_58 (by decide) (fun c58 => ?_) (fun c58 => ?_)
              · skip
                have n58 : a1 ≤ k := (nI_leI (a := a1) (b := k) (by omega) (by omega)).mp c58
                refine lv_aload_n hx hb dX5_drift_131 rfl (lv_at hl 0 rfl) ?_
                refine va_get (D := gD G) (ci := 5) (v := .int (uu.1 0)) (C := RX5) (T := TX5) (N := 38) hx hb hts hiX5 hown hK hP 0 rfl rfl 0 (by decide) k91 (fun _ h9 => h9) rfl dX5_drift_132 ?_
                refine topE hM.1 ?_
                exact W.iret (v := nI nv1) hx hb hr (fun t ht hW => ⟨⟨nI nv1, (uu, lN y, sj), rfl, ⟨⟨nv1, nl1, nt, nh1, hM⟩, hkp⟩, show PP G (mw G h uu (lN y) sj) t.heap by rw [ht]; exact hP⟩, hS.F ht⟩) hS.2.2 dX5_drift_135
              · skip
                have n58 : ¬ (a1 ≤ k) := fun q9 => c58 ((nI_leI (a := a1) (b := k) (by omega) (by omega)).mpr q9)
                refine lv_iload_n hx hb dX5_drift_61 rfl (lv_at hl 2 rfl) ?_
                refine lv_if_eq (tgt := 131) hx hb dX5_drift_62 (by decide) (fun c62 => ?_) (fun c62 => ?_)
                · skip
                  refine lv_aload_n hx hb dX5_drift_131 rfl (lv_at hl 0 rfl) ?_
                  refine va_get (D := gD G) (ci := 5) (v := .int (uu.1 0)) (C := RX5) (T := TX5) (N := 38) hx hb hts hiX5 hown hK hP 0 rfl rfl 0 (by decide) k91 (fun _ h9 => h9) rfl dX5_drift_132 ?_
                  refine topE hM.1 ?_
                  exact W.iret (v := nI nv1) hx hb hr (fun t ht hW => ⟨⟨nI nv1, (uu, lN y, sj), rfl, ⟨⟨nv1, nl1, nt, nh1, hM⟩, hkp⟩, show PP G (mw G h uu (lN y) sj) t.heap by rw [ht]; exact hP⟩, hS.F ht⟩) hS.2.2 dX5_drift_135
                · skip
                  refine lv_aload_n hx hb dX5_drift_65 rfl (lv_at hl 0 rfl) ?_
                  refine va_get (D := gD G) (ci := 5) (v := .int (uu.1 0)) (C := RX5) (T := TX5) (N := 38) hx hb hts hiX5 hown hK hP 0 rfl rfl 0 (by decide) k91 (fun _ h9 => h9) rfl dX5_drift_66 ?_
                  refine topE hM.1 ?_
                  refine lv_bipush (v := nI 24) hx hb dX5_drift_69 (by decide) ?_
                  refine lv_icmp_ge (tgt := 131) hx hb dX5_drift_71 (by decide) (fun c71 => ?_) (fun c71 => ?_)
                  · skip
                    have n71 : 24 ≤ nv1 := (nI_leI (a := 24) (b := nv1) (by omega) (by omega)).mp c71
                    refine lv_aload_n hx hb dX5_drift_131 rfl (lv_at hl 0 rfl) ?_
                    refine va_get (D := gD G) (ci := 5) (v := .int (uu.1 0)) (C := RX5) (T := TX5) (N := 38) hx hb hts hiX5 hown hK hP 0 rfl rfl 0 (by decide) k91 (fun _ h9 => h9) rfl dX5_drift_132 ?_
                    refine topE hM.1 ?_
                    exact W.iret (v := nI nv1) hx hb hr (fun t ht hW => ⟨⟨nI nv1, (uu, lN y, sj), rfl, ⟨⟨nv1, nl1, nt, nh1, hM⟩, hkp⟩, show PP G (mw G h uu (lN y) sj) t.heap by rw [ht]; exact hP⟩, hS.F ht⟩) hS.2.2 dX5_drift_135
                  · skip
                    have n71 : ¬ (24 ≤ nv1) := fun q9 => c71 ((nI_leI (a := 24) (b := nv1) (by omega) (by omega)).mpr q9)
                    have hv24 : nv1 < 24 := by omega
                    refine lv_aload_n hx hb dX5_drift_74 rfl (lv_at hl 0 rfl) ?_
                    refine lv_aload_n hx hb dX5_drift_75 rfl (lv_at hl 0 rfl) ?_
                    refine lv_aload_n hx hb dX5_drift_76 rfl (lv_at hl 0 rfl) ?_
                    refine va_get (D := gD G) (ci := 5) (v := .int (uu.1 0)) (C := RX5) (T := TX5) (N := 38) hx hb hts hiX5 hown hK hP 0 rfl rfl 0 (by decide) k91 (fun _ h9 => h9) rfl dX5_drift_77 ?_
                    refine topE hM.1 ?_
                    refine cXi (As := [.int (nI nv1)]) (rest := [.ref (h 0)]) (S := oS × Int64 × (Nat → Int64)) (wa := mw G h uu (lN y) sj) (w1 := fun v => mw G h v.1 v.2.1 v.2.2) ⟨hx, hb, hml, hown, hts⟩ (mt_X5_lotBy l G h _ uu (lN y) sj y nv1 (rfl) (by first | assumption | omega) (hv0) (by first | assumption | omega)) (cwV 1 hts gX5_drift_X5_lotBy rfl rfl rfl (by decide +kernel) ⟨Nat.le_of_ble_eq_true rfl, Nat.le_of_ble_eq_true rfl⟩) hK hN hP hD hS hA (fun _ => rfl) 0 5 rfl rfl rfl hl.1 rfl (Nat.le_of_ble_eq_true rfl) ⟨Nat.zero_le _, Nat.zero_le _⟩ dX5_drift_80 (fun r80 u80 H locs hw80 hP hD hS => ?_)
                    obtain ⟨y80, q80, hy80, hq80, rfl, rfl⟩ := hw80
                    have hP : PP G (mw G h uu (lN y80) sj) H := hP
                    have hD : va_D A (mw G h uu (lN y80) sj) := hD
                    refine cXv (As := [.int (nI (q80))]) (rest := []) (S := oS × Int64 × (Nat → Int64)) (wa := mw G h uu (lN y80) sj) (w1 := fun v => mw G h v.1 v.2.1 v.2.2) ⟨hx, hb, hml, hown, hts⟩ (mt_X5_openNow l G h _ uu (lN y80) sj nv1 nl1 (nI (q80)) (hM.1) (hM.2.1) (by omega) (hM.2.2.2.2.2.1)) (cwV 1 hts gX5_drift_X5_openNow rfl rfl rfl (by decide +kernel) ⟨Nat.le_of_ble_eq_true rfl, Nat.le_of_ble_eq_true rfl⟩) hK hN hP hD hS hA (fun _ => rfl) 0 5 rfl rfl rfl hl.1 rfl (Nat.le_of_ble_eq_true rfl) ⟨Nat.zero_le _, Nat.zero_le _⟩ dX5_drift_83 (fun u83 H locs hw83 hP hD hS => ?_)
                    obtain rfl := hw83
                    have hP : PP G (mw G h (opU uu nv1 nl1 (nI (q80))) (lN y80) sj) H := hP
                    have hD : va_D A (mw G h (opU uu nv1 nl1 (nI (q80))) (lN y80) sj) := hD
                    refine lv_iconst (v := nI 0) hx hb dX5_drift_86 (by decide) ?_
                    refine lv_istore (lv' := [(5, .int (nI 0)), (0, .ref (h 0)), (1, .int (nI a1)), (3, .int gg), (4, .int (nI k))]) hx hb dX5_drift_87 hl (by decide) rfl (fun ls hl => ?_)
                    have LP89 : ∀ (n89m : Nat), ∀ (j : Nat) (gg2 : Int32) (ww : oS) (m5 : Nat) (z : Nat) (hE : lnE (opU uu nv1 nl1 (nI q80)) ww) (e5 : ww.1 4 = nI m5) (hm5 : m5 ≤ 120) (hzz : z < 2147483647) (hgg2 : gg2 = 0 ∨ gg2 = 1) (hj : j ≤ 3), (3 - j < n89m) → ∀ (H : Heap) (locs : List Loc) (ls : Array Slot), PP G (mw G h ww (lN z) sj) H → va_D A (mw G h ww (lN z) sj) → va_S A s.heap H locs → lv_has ls 6 [(0, .ref (h 0)), (1, .int (nI a1)), (3, .int gg2), (4, .int (nI k)), (5, .int (nI j))] → W p l e (headSpec wsX5_drift ({ frames := 5, cells := 0, slots := 0, locals := 113 })).room s m ([.ref (h 0), .int (nI a1), .int (nI b1)] : List Value).toArray below meth c H locs 0 0 (MQ below (va_Qi (fun (r : Int32) (v : oS × Int64 × (Nat → Int64)) => MIk u v.1) (fun v t => PP G (mw G h v.1 v.2.1 v.2.2) t.heap) A) ([.ref (h 0), .int (nI a1), .int (nI b1)] : List Value).toArray s 0 0 A) (F0 m 89 ls []) := by
                      intro n89m
                      induction n89m with
                      | zero => intro j gg2 ww m5 z hE e5 hm5 hzz hgg2 hj hmu H locs ls hP hD hS hl; exact absurd hmu (Nat.not_lt_zero _)
                      | succ n89m ih89 =>
                        intro j gg2 ww m5 z hE e5 hm5 hzz hgg2 hj hmu H locs ls hP hD hS hl
                        refine lv_iload hx hb dX5_drift_89 (lv_at hl 4 rfl) ?_
                        refine lv_iconst (v := nI 3) hx hb dX5_drift_91 (by decide) ?_
                        refine lv_icmp_ge (tgt := 110) hx hb dX5_drift_92 (by decide) (fun c92 => ?_) (fun c92 => ?_)
                        · skip
                          have n92 : 3 ≤ j := (nI_leI (a := 3) (b := j) (by omega) (by omega)).mp c92
                          refine lv_aload_n hx hb dX5_drift_110 rfl (lv_at hl 0 rfl) ?_
                          refine lv_iconst (v := nI 0) hx hb dX5_drift_111 (by decide) ?_
                          refine va_put (D := gD G) (ci := 5) (v := .int (nI 0)) (ty := .boolean) (C := RX5) (T := TX5) (N := 38) hx hb hts hiX5 tyX5 tyX5_ok nmX5 hown hK hP hD hS 0 rfl rfl 8 (by decide) k178 (fun _ h9 => h9) rfl (by decide +kernel) (rfl) (rfl) (Nat.le_of_ble_eq_true rfl) dX5_drift_112 (fun H locs hP hD hS => ?_)
                          have hP : PP G (mw G h (oI ww 8 (nI 0)) (lN z) sj) H := hP
                          have hD : va_D A (mw G h (oI ww 8 (nI 0)) (lN z) sj) := hD
                          refine lv_aload_n hx hb dX5_drift_115 rfl (lv_at hl 0 rfl) ?_
                          refine lv_dup hx hb dX5_drift_116 rfl ?_
                          refine va_get (D := gD G) (ci := 5) (v := .int ((oI ww 8 (nI 0)).1 0)) (C := RX5) (T := TX5) (N := 38) hx hb hts hiX5 hown hK hP 0 rfl rfl 0 (by decide) k91 (fun _ h9 => h9) rfl dX5_drift_117 ?_
                          refine topE ((hE.1 0 (by decide)).trans hM.1) ?_
                          refine lv_iconst (v := nI 1) hx hb dX5_drift_120 (by decide) ?_
                          refine lv_iadd hx hb dX5_drift_121 ?_
                          refine topE (y := nI (nv1 + 1)) (nI_add nv1 1) ?_
                          refine va_put (D := gD G) (ci := 5) (v := .int (nI (nv1 + 1))) (ty := .int) (C := RX5) (T := TX5) (N := 38) hx hb hts hiX5 tyX5 tyX5_ok nmX5 hown hK hP hD hS 0 rfl rfl 0 (by decide) k91 (fun _ h9 => h9) rfl (by decide +kernel) (rfl) (rfl) (Nat.le_of_ble_eq_true rfl) dX5_drift_122 (fun H locs hP hD hS => ?_)
                          have hP : PP G (mw G h (oI (oI ww 8 (nI 0)) 0 (nI (nv1 + 1))) (lN z) sj) H := hP
                          have hD : va_D A (mw G h (oI (oI ww 8 (nI 0)) 0 (nI (nv1 + 1))) (lN z) sj) := hD
                          refine lv_iinc (v := nI (k + 1)) (lv' := [(4, .int (nI (k + 1))), (0, .ref (h 0)), (1, .int (nI a1)), (3, .int gg2), (5, .int (nI j))]) hx hb dX5_drift_125 hl (k := 3) rfl (nI_1 k) (by decide) rfl (fun ls hl => ?_)
                          refine lv_goto (tgt := 55) hx hb dX5_drift_128 (by decide) ?_
                          exact ih55 (k + 1) gg2 (oI (oI ww 8 (nI 0)) 0 (nI (nv1 + 1))) (nv1 + 1) m5 nl1 z (MIx_drift hM hv24 (Or.inr ⟨q80, hq80, rfl⟩) hE e5 hm5) (hkp.trans (⟨⟨(lnE.kp hE).1, (lnE.kp hE).2.1, (lnE.kp hE).2.2⟩, hE.2 9 (by decide) (by decide) (by decide) (by decide), hE.1 11 (by decide)⟩ : kp5 uu _)) (by omega) (by assumption) (by first | assumption | omega) (by first | assumption | omega) (by first | assumption | omega) (by omega) _ _ ls hP hD hS (lv_sub hl [1, 2, 3, 0] rfl)
                        · skip
                          have n92 : ¬ (3 ≤ j) := fun q9 => c92 ((nI_leI (a := 3) (b := j) (by omega) (by omega)).mpr q9)
                          refine lv_iload_n hx hb dX5_drift_95 rfl (lv_at hl 2 rfl) ?_
                          refine lv_if_eq (tgt := 110) hx hb dX5_drift_96 (by decide) (fun c96 => ?_) (fun c96 => ?_)
                          · skip
                            refine lv_aload_n hx hb dX5_drift_110 rfl (lv_at hl 0 rfl) ?_
                            refine lv_iconst (v := nI 0) hx hb dX5_drift_111 (by decide) ?_
                            refine va_put (D := gD G) (ci := 5) (v := .int (nI 0)) (ty := .boolean) (C := RX5) (T := TX5) (N := 38) hx hb hts hiX5 tyX5 tyX5_ok nmX5 hown hK hP hD hS 0 rfl rfl 8 (by decide) k178 (fun _ h9 => h9) rfl (by decide +kernel) (rfl) (rfl) (Nat.le_of_ble_eq_true rfl) dX5_drift_112 (fun H locs hP hD hS => ?_)
                            have hP : PP G (mw G h (oI ww 8 (nI 0)) (lN z) sj) H := hP
                            have hD : va_D A (mw G h (oI ww 8 (nI 0)) (lN z) sj) := hD
                            refine lv_aload_n hx hb dX5_drift_115 rfl (lv_at hl 0 rfl) ?_
                            refine lv_dup hx hb dX5_drift_116 rfl ?_
                            refine va_get (D := gD G) (ci := 5) (v := .int ((oI ww 8 (nI 0)).1 0)) (C := RX5) (T := TX5) (N := 38) hx hb hts hiX5 hown hK hP 0 rfl rfl 0 (by decide) k91 (fun _ h9 => h9) rfl dX5_drift_117 ?_
                            refine topE ((hE.1 0 (by decide)).trans hM.1) ?_
                            refine lv_iconst (v := nI 1) hx hb dX5_drift_120 (by decide) ?_
                            refine lv_iadd hx hb dX5_drift_121 ?_
                            refine topE (y := nI (nv1 + 1)) (nI_add nv1 1) ?_
                            refine va_put (D := gD G) (ci := 5) (v := .int (nI (nv1 + 1))) (ty := .int) (C := RX5) (T := TX5) (N := 38) hx hb hts hiX5 tyX5 tyX5_ok nmX5 hown hK hP hD hS 0 rfl rfl 0 (by decide) k91 (fun _ h9 => h9) rfl (by decide +kernel) (rfl) (rfl) (Nat.le_of_ble_eq_true rfl) dX5_drift_122 (fun H locs hP hD hS => ?_)
                            have hP : PP G (mw G h (oI (oI ww 8 (nI 0)) 0 (nI (nv1 + 1))) (lN z) sj) H := hP
                            have hD : va_D A (mw G h (oI (oI ww 8 (nI 0)) 0 (nI (nv1 + 1))) (lN z) sj) := hD
                            refine lv_iinc (v := nI (k + 1)) (lv' := [(4, .int (nI (k + 1))), (0, .ref (h 0)), (1, .int (nI a1)), (3, .int gg2), (5, .int (nI j))]) hx hb dX5_drift_125 hl (k := 3) rfl (nI_1 k) (by decide) rfl (fun ls hl => ?_)
                            refine lv_goto (tgt := 55) hx hb dX5_drift_128 (by decide) ?_
                            exact ih55 (k + 1) gg2 (oI (oI ww 8 (nI 0)) 0 (nI (nv1 + 1))) (nv1 + 1) m5 nl1 z (MIx_drift hM hv24 (Or.inr ⟨q80, hq80, rfl⟩) hE e5 hm5) (hkp.trans (⟨⟨(lnE.kp hE).1, (lnE.kp hE).2.1, (lnE.kp hE).2.2⟩, hE.2 9 (by decide) (by decide) (by decide) (by decide), hE.1 11 (by decide)⟩ : kp5 uu _)) (by omega) (by assumption) (by first | assumption | omega) (by first | assumption | omega) (by first | assumption | omega) (by omega) _ _ ls hP hD hS (lv_sub hl [1, 2, 3, 0] rfl)
                          · skip
                            refine lv_aload_n hx hb dX5_drift_99 rfl (lv_at hl 0 rfl) ?_
                            refine cXi (As := []) (rest := []) (S := oS × Int64 × (Nat → Int64)) (wa := mw G h ww (lN z) sj) (w1 := fun v => mw G h v.1 v.2.1 v.2.2) ⟨hx, hb, hml, hown, hts⟩ (mt_X5_changeByLots l G h _ ww (lN z) sj nv1 m5 z ((hE.1 0 (by decide)).trans hM.1) (e5) (by first | assumption | omega) (by first | assumption | omega) (by rw [hE.2 1 (by decide) (by decide) (by decide) (by decide)]; exact parOK_upd hM.2.2.2.2.2.2.2.2.2.2.1 (Or.inr ⟨q80, hq80, rfl⟩)) (rfl) (by first | assumption | omega)) (cwV 0 hts gX5_drift_X5_changeByLots rfl rfl rfl (by decide +kernel) ⟨Nat.le_of_ble_eq_true rfl, Nat.le_of_ble_eq_true rfl⟩) hK hN hP hD hS hA (fun _ => rfl) 0 5 rfl rfl rfl hl.1 rfl (Nat.le_of_ble_eq_true rfl) ⟨Nat.zero_le _, Nat.zero_le _⟩ dX5_drift_100 (fun r100 u100 H locs hw100 hP hD hS => ?_)
                            obtain ⟨m100, y100, w100, hm100, hy100, rfl, hE100, e4100, hz100⟩ := hw100
                            have hP : PP G (mw G h w100 (lN y100) sj) H := hP
                            have hD : va_D A (mw G h w100 (lN y100) sj) := hD
                            refine lv_istore_n (lv' := [(3, .int r100), (0, .ref (h 0)), (1, .int (nI a1)), (4, .int (nI k)), (5, .int (nI j))]) hx hb dX5_drift_103 rfl hl (by decide) rfl (fun ls hl => ?_)
                            refine lv_iinc (v := nI (j + 1)) (lv' := [(5, .int (nI (j + 1))), (3, .int r100), (0, .ref (h 0)), (1, .int (nI a1)), (4, .int (nI k))]) hx hb dX5_drift_104 hl (k := 4) rfl (nI_1 j) (by decide) rfl (fun ls hl => ?_)
                            refine lv_goto (tgt := 89) hx hb dX5_drift_107 (by decide) ?_
                            exact ih89 (j + 1) r100 w100 m100 y100 (hE.trans hE100) (e4100) (hm100) (by first | assumption | omega) (hz100.symm) (by first | assumption | omega) (by omega) _ _ ls hP hD hS (lv_sub hl [2, 3, 1, 4, 0] rfl)
                    exact LP89 (3 - 0 + 1) 0 gg (opU uu nv1 nl1 (nI (q80))) nl1 y80 (lnE.refl _) (hM.2.1) (hM.2.2.2.2.2.1) (by first | assumption | omega) (hgg) (by first | assumption | omega) (Nat.lt_succ_self _) _ _ ls hP hD hS (lv_sub hl [1, 2, 3, 4, 0] rfl)
          exact LP55 (a1 - 0 + 1) 0 (nI 1) u nv nl nh b1 (hI0) (kp5.refl _) (hnv24) (Or.inr rfl) (by first | assumption | omega) (by first | assumption | omega) (by first | assumption | omega) (Nat.lt_succ_self _) _ _ ls hP hD hS (lv_sub hl [2, 3, 1, 0] rfl)
        · skip
          have n38 : nv = 0 := (nI_eq (a := nv) (b := 0) (by omega) (by omega)).mp c38
          refine lv_ldc (v := (-1000000003 : Int32)) hx hb hown (hts (.constant RX5 225 (-1000000003)) (List.mem_of_getElem? (i := 6) rfl)) dX5_drift_41 ?_
          exact W.iret (v := (-1000000003 : Int32)) hx hb hr (fun t ht hW => ⟨⟨(-1000000003 : Int32), (u, lt, sj), rfl, ⟨⟨nv, nl, nt, nh, hI0⟩, ⟨rfl, rfl, rfl⟩, rfl, rfl⟩, show PP G (mw G h u lt sj) t.heap by rw [ht]; exact hP⟩, hS.F ht⟩) hS.2.2 dX5_drift_43
    · skip
      refine lv_if_ne (tgt := 27) hx hb dX5_drift_21 (by decide) (fun c9 => absurd (by decide) c9) (fun _ => ?_)
      refine lv_ldc (v := (-1000000002 : Int32)) hx hb hown (hts (.constant RX5 100 (-1000000002)) (List.mem_of_getElem? (i := 3) rfl)) dX5_drift_24 ?_
      exact W.iret (v := (-1000000002 : Int32)) hx hb hr (fun t ht hW => ⟨⟨(-1000000002 : Int32), (u, lt, sj), rfl, ⟨⟨nv, nl, nt, nh, hI0⟩, ⟨rfl, rfl, rfl⟩, rfl, rfl⟩, show PP G (mw G h u lt sj) t.heap by rw [ht]; exact hP⟩, hS.F ht⟩) hS.2.2 dX5_drift_26
  · skip
    refine lv_if_eq (tgt := 24) hx hb dX5_drift_9 (by decide) (fun _ => ?_) (fun c9 => absurd (by decide) c9)
    refine lv_ldc (v := (-1000000002 : Int32)) hx hb hown (hts (.constant RX5 100 (-1000000002)) (List.mem_of_getElem? (i := 3) rfl)) dX5_drift_24 ?_
    exact W.iret (v := (-1000000002 : Int32)) hx hb hr (fun t ht hW => ⟨⟨(-1000000002 : Int32), (u, lt, sj), rfl, ⟨⟨nv, nl, nt, nh, hI0⟩, ⟨rfl, rfl, rfl⟩, rfl, rfl⟩, show PP G (mw G h u lt sj) t.heap by rw [ht]; exact hP⟩, hS.F ht⟩) hS.2.2 dX5_drift_26
