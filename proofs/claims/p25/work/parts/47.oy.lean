set_option maxHeartbeats 1000000 in
set_option maxRecDepth 100000 in
theorem mt_X2_layF (l : Launch) (G : gG) (h : Nat → Nat) (sz : Nat) (z : oS) (jj : Nat → Nat → Int64) (j : Nat) (n1 : Int32) (hj4 : j < 4) : Met l yX2_lay wsX2_lay ({ frames := 0, cells := 0, slots := 0, locals := 0 }) (preW G (sv G h z jj) sz [.ref (h 0), .int (nI j), .int n1]) (va_Qv (fun (v : oS × (Nat → Nat → Int64)) => ∃ jj', v = (oA z 1 (upd (z.2 1) j n1), jj') ∧ (∀ k, k < 40 → jj' j k = 0) ∧ (∀ a, a ≠ j → jj' a = jj a)) (fun v t => PP G (sv G h v.1 v.2) t.heap) (va_A (sv G h z jj) sz)) 0 0 (va_A (sv G h z jj) sz) := by
  refine Met.ofW (cc := cX2_lay) (maxL := 4) (ret := none) (by decide) rfl ?_
  intro p e s m args below meth c s₁ B hml hv
  obtain ⟨ha, hsz, hP, hK, hN, hD0⟩ := hv
  subst ha
  have hx := B.exec
  have hb := B.bytes
  have hr := B.returns
  have hts := atoms_spec (ws := wsX2_lay) B.pre
  have hown : s.vm.findClass RX2 = some m.cls := findClass_of_methodNamed B.named
  have hlocks := B.notSynchronized
  subst hsz
  have hD := hD0.self (sz := s.heap.size)
  generalize hAe : va_A (sv G h z jj) s.heap.size = A at hD ⊢
  have hA : ∀ q : Nat, s.heap.size ≤ q → A q := fun q h => by rw [← hAe]; exact Or.inr h
  clear hAe hD0
  have hS : va_S A s.heap s.heap [] := va_S.rf
  have hiX2 : ∀ w ∈ wsX20, w ∈ wsX2_lay := fun w h9 => List.mem_cons_of_mem _ (List.mem_append_right _ (h9))
  have k11 := hts (.fieldLink RX2 11 "WovenHistory$Sheets" "numbers" "[[J") (List.mem_of_getElem? (i := 1) rfl)
  have k16 := hts (.fieldLink RX2 16 "WovenHistory$Sheets" "sizes" "[I") (List.mem_of_getElem? (i := 2) rfl)
  have hl := lv_entry ([.ref (h 0), .int (nI j), .int n1]) (n := 4) (Nat.le_of_ble_eq_true rfl)
  rw [lg_entry_eq]
  generalize (lg_sl ([.ref (h 0), .int (nI j), .int n1]) ++ List.replicate (4 - (lg_sl ([.ref (h 0), .int (nI j), .int n1])).length) Slot.unset).toArray = ls at hl ⊢
  have hl : lv_has ls 4 [(0, .ref (h 0)), (1, .int (nI j)), (2, .int n1)] := hl
  rcases (show j = 0 ∨ j = 1 ∨ j = 2 ∨ j = 3 by omega) with rfl | rfl | rfl | rfl
  · skip
    refine lv_iconst (v := nI 0) hx hb dX2_lay_0 (by decide) ?_
    refine lv_istore_n (lv' := [(3, .int (nI 0)), (0, .ref (h 0)), (1, .int (nI 0)), (2, .int n1)]) hx hb dX2_lay_1 rfl hl (by decide) rfl (fun ls hl => ?_)
    have LP2 : ∀ (n2m : Nat), ∀ (k : Nat) (jk : Nat → Nat → Int64) (hk : k ≤ 40) (hz0 : ∀ q, q < k → jk 0 q = 0) (ho0 : ∀ a, a ≠ 0 → jk a = jj a), (40 - k < n2m) → ∀ (H : Heap) (locs : List Loc) (ls : Array Slot), PP G (sv G h z jk) H → va_D A (sv G h z jk) → va_S A s.heap H locs → lv_has ls 4 [(0, .ref (h 0)), (1, .int (nI 0)), (2, .int n1), (3, .int (nI k))] → W p l e (headSpec wsX2_lay ({ frames := 0, cells := 0, slots := 0, locals := 0 })).room s m ([.ref (h 0), .int (nI 0), .int n1] : List Value).toArray below meth c H locs 0 0 (MQ below (va_Qv (fun (v : oS × (Nat → Nat → Int64)) => ∃ jj', v = (oA z 1 (upd (z.2 1) 0 n1), jj') ∧ (∀ k, k < 40 → jj' 0 k = 0) ∧ (∀ a, a ≠ 0 → jj' a = jj a)) (fun v t => PP G (sv G h v.1 v.2) t.heap) A) ([.ref (h 0), .int (nI 0), .int n1] : List Value).toArray s 0 0 A) (F0 m 2 ls []) := by
      intro n2m
      induction n2m with
      | zero => intro k jk hk hz0 ho0 hmu H locs ls hP hD hS hl; exact absurd hmu (Nat.not_lt_zero _)
      | succ n2m ih2 =>
        intro k jk hk hz0 ho0 hmu H locs ls hP hD hS hl
        refine lv_iload_n hx hb dX2_lay_2 rfl (lv_at hl 3 rfl) ?_
        refine lv_bipush (v := nI 40) hx hb dX2_lay_3 (by decide) ?_
        refine lv_icmp_ge (tgt := 23) hx hb dX2_lay_5 (by decide) (fun c5 => ?_) (fun c5 => ?_)
        · skip
          have n5 : 40 ≤ k := (nI_leI (a := 40) (b := k) (by omega) (by omega)).mp c5
          refine lv_aload_n hx hb dX2_lay_23 rfl (lv_at hl 0 rfl) ?_
          refine va_get (D := gD G) (ci := 2) (v := .ref (h 2)) (C := RX2) (T := TX2) (N := 2) hx hb hts hiX2 hown hK hP 0 rfl rfl 1 (by decide) k16 (fun _ h9 => h9) rfl dX2_lay_24 ?_
          refine lv_iload_n hx hb dX2_lay_27 rfl (lv_at hl 1 rfl) ?_
          refine lv_iload_n hx hb dX2_lay_28 rfl (lv_at hl 2 rfl) ?_
          refine iastN (f := z.2 1) (n := 4) (k := 0) hx hb hK hP hD hS 2 rfl rfl (by omega) dX2_lay_29 (fun H locs hP hD hS => ?_)
          have hP : PP G (sv G h (oA z 1 (upd (z.2 1) 0 n1)) jk) H := hP
          have hD : va_D A (sv G h (oA z 1 (upd (z.2 1) 0 n1)) jk) := hD
          exact W.vret hx hb hr (fun t ht hW => ⟨⟨(oA z 1 (upd (z.2 1) 0 n1), jk), rfl, ⟨_, rfl, (fun q h9 => hz0 q (by omega)), ho0⟩, show PP G (sv G h (oA z 1 (upd (z.2 1) 0 n1)) jk) t.heap by rw [ht]; exact hP⟩, hS.F ht⟩) hS.2.2 dX2_lay_30
        · skip
          have n5 : ¬ (40 ≤ k) := fun q9 => c5 ((nI_leI (a := 40) (b := k) (by omega) (by omega)).mpr q9)
          refine lv_aload_n hx hb dX2_lay_8 rfl (lv_at hl 0 rfl) ?_
          refine va_get (D := gD G) (ci := 2) (v := .ref (h 1)) (C := RX2) (T := TX2) (N := 2) hx hb hts hiX2 hown hK hP 0 rfl rfl 0 (by decide) k11 (fun _ h9 => h9) rfl dX2_lay_9 ?_
          refine lv_iload_n hx hb dX2_lay_12 rfl (lv_at hl 1 rfl) ?_
          refine aaldJ (f := fun i => some (h (3 + i))) (n := 4) (k := 0) (b := h 3) hx hb hK hP 1 rfl rfl (by decide) rfl dX2_lay_13 ?_
          refine lv_iload_n hx hb dX2_lay_14 rfl (lv_at hl 3 rfl) ?_
          refine lv_lconst (v := 0) hx hb dX2_lay_15 (by decide) ?_
          refine lastN (f := jk 0) (n := 40) (k := k) hx hb hK hP hD hS 3 rfl rfl (by omega) dX2_lay_16 (fun H locs hP hD hS => ?_)
          have hP : PP G (sv G h z (va_up jk 0 (vp_updL (jk 0) k 0))) H := hP
          have hD : va_D A (sv G h z (va_up jk 0 (vp_updL (jk 0) k 0))) := hD
          refine lv_iinc (v := nI (k + 1)) (lv' := [(3, .int (nI (k + 1))), (0, .ref (h 0)), (1, .int (nI 0)), (2, .int n1)]) hx hb dX2_lay_17 hl (k := 3) rfl (nI_1 k) (by decide) rfl (fun ls hl => ?_)
          refine lv_goto (tgt := 2) hx hb dX2_lay_20 (by decide) ?_
          exact ih2 (k + 1) (va_up jk 0 (vp_updL (jk 0) k 0)) (by first | assumption | omega) (fun q h9 => by show vp_updL (jk 0) k 0 q = 0; by_cases e9 : q = k; (rw [e9]; exact pk_uLs); (rw [pk_uLn e9]; exact hz0 q (by omega))) (fun a h9 => (show (if a = 0 then _ else jk a) = jj a from by rw [if_neg h9]; exact ho0 a h9)) (by omega) _ _ ls hP hD hS (lv_sub hl [1, 2, 3, 0] rfl)
    exact LP2 (40 - 0 + 1) 0 jj (by first | assumption | omega) (fun q h9 => absurd h9 (Nat.not_lt_zero q)) (fun _ _ => rfl) (Nat.lt_succ_self _) _ _ ls hP hD hS (lv_sub hl [1, 2, 3, 0] rfl)
  · skip
    refine lv_iconst (v := nI 0) hx hb dX2_lay_0 (by decide) ?_
    refine lv_istore_n (lv' := [(3, .int (nI 0)), (0, .ref (h 0)), (1, .int (nI 1)), (2, .int n1)]) hx hb dX2_lay_1 rfl hl (by decide) rfl (fun ls hl => ?_)
    have LP2 : ∀ (n2m : Nat), ∀ (k : Nat) (jk : Nat → Nat → Int64) (hk : k ≤ 40) (hz0 : ∀ q, q < k → jk 1 q = 0) (ho0 : ∀ a, a ≠ 1 → jk a = jj a), (40 - k < n2m) → ∀ (H : Heap) (locs : List Loc) (ls : Array Slot), PP G (sv G h z jk) H → va_D A (sv G h z jk) → va_S A s.heap H locs → lv_has ls 4 [(0, .ref (h 0)), (1, .int (nI 1)), (2, .int n1), (3, .int (nI k))] → W p l e (headSpec wsX2_lay ({ frames := 0, cells := 0, slots := 0, locals := 0 })).room s m ([.ref (h 0), .int (nI 1), .int n1] : List Value).toArray below meth c H locs 0 0 (MQ below (va_Qv (fun (v : oS × (Nat → Nat → Int64)) => ∃ jj', v = (oA z 1 (upd (z.2 1) 1 n1), jj') ∧ (∀ k, k < 40 → jj' 1 k = 0) ∧ (∀ a, a ≠ 1 → jj' a = jj a)) (fun v t => PP G (sv G h v.1 v.2) t.heap) A) ([.ref (h 0), .int (nI 1), .int n1] : List Value).toArray s 0 0 A) (F0 m 2 ls []) := by
      intro n2m
      induction n2m with
      | zero => intro k jk hk hz0 ho0 hmu H locs ls hP hD hS hl; exact absurd hmu (Nat.not_lt_zero _)
      | succ n2m ih2 =>
        intro k jk hk hz0 ho0 hmu H locs ls hP hD hS hl
        refine lv_iload_n hx hb dX2_lay_2 rfl (lv_at hl 3 rfl) ?_
        refine lv_bipush (v := nI 40) hx hb dX2_lay_3 (by decide) ?_
        refine lv_icmp_ge (tgt := 23) hx hb dX2_lay_5 (by decide) (fun c5 => ?_) (fun c5 => ?_)
        · skip
          have n5 : 40 ≤ k := (nI_leI (a := 40) (b := k) (by omega) (by omega)).mp c5
          refine lv_aload_n hx hb dX2_lay_23 rfl (lv_at hl 0 rfl) ?_
          refine va_get (D := gD G) (ci := 2) (v := .ref (h 2)) (C := RX2) (T := TX2) (N := 2) hx hb hts hiX2 hown hK hP 0 rfl rfl 1 (by decide) k16 (fun _ h9 => h9) rfl dX2_lay_24 ?_
          refine lv_iload_n hx hb dX2_lay_27 rfl (lv_at hl 1 rfl) ?_
          refine lv_iload_n hx hb dX2_lay_28 rfl (lv_at hl 2 rfl) ?_
          refine iastN (f := z.2 1) (n := 4) (k := 1) hx hb hK hP hD hS 2 rfl rfl (by omega) dX2_lay_29 (fun H locs hP hD hS => ?_)
          have hP : PP G (sv G h (oA z 1 (upd (z.2 1) 1 n1)) jk) H := hP
          have hD : va_D A (sv G h (oA z 1 (upd (z.2 1) 1 n1)) jk) := hD
          exact W.vret hx hb hr (fun t ht hW => ⟨⟨(oA z 1 (upd (z.2 1) 1 n1), jk), rfl, ⟨_, rfl, (fun q h9 => hz0 q (by omega)), ho0⟩, show PP G (sv G h (oA z 1 (upd (z.2 1) 1 n1)) jk) t.heap by rw [ht]; exact hP⟩, hS.F ht⟩) hS.2.2 dX2_lay_30
        · skip
          have n5 : ¬ (40 ≤ k) := fun q9 => c5 ((nI_leI (a := 40) (b := k) (by omega) (by omega)).mpr q9)
          refine lv_aload_n hx hb dX2_lay_8 rfl (lv_at hl 0 rfl) ?_
          refine va_get (D := gD G) (ci := 2) (v := .ref (h 1)) (C := RX2) (T := TX2) (N := 2) hx hb hts hiX2 hown hK hP 0 rfl rfl 0 (by decide) k11 (fun _ h9 => h9) rfl dX2_lay_9 ?_
          refine lv_iload_n hx hb dX2_lay_12 rfl (lv_at hl 1 rfl) ?_
          refine aaldJ (f := fun i => some (h (3 + i))) (n := 4) (k := 1) (b := h 4) hx hb hK hP 1 rfl rfl (by decide) rfl dX2_lay_13 ?_
          refine lv_iload_n hx hb dX2_lay_14 rfl (lv_at hl 3 rfl) ?_
          refine lv_lconst (v := 0) hx hb dX2_lay_15 (by decide) ?_
          refine lastN (f := jk 1) (n := 40) (k := k) hx hb hK hP hD hS 4 rfl rfl (by omega) dX2_lay_16 (fun H locs hP hD hS => ?_)
          have hP : PP G (sv G h z (va_up jk 1 (vp_updL (jk 1) k 0))) H := hP
          have hD : va_D A (sv G h z (va_up jk 1 (vp_updL (jk 1) k 0))) := hD
          refine lv_iinc (v := nI (k + 1)) (lv' := [(3, .int (nI (k + 1))), (0, .ref (h 0)), (1, .int (nI 1)), (2, .int n1)]) hx hb dX2_lay_17 hl (k := 3) rfl (nI_1 k) (by decide) rfl (fun ls hl => ?_)
          refine lv_goto (tgt := 2) hx hb dX2_lay_20 (by decide) ?_
          exact ih2 (k + 1) (va_up jk 1 (vp_updL (jk 1) k 0)) (by first | assumption | omega) (fun q h9 => by show vp_updL (jk 1) k 0 q = 0; by_cases e9 : q = k; (rw [e9]; exact pk_uLs); (rw [pk_uLn e9]; exact hz0 q (by omega))) (fun a h9 => (show (if a = 1 then _ else jk a) = jj a from by rw [if_neg h9]; exact ho0 a h9)) (by omega) _ _ ls hP hD hS (lv_sub hl [1, 2, 3, 0] rfl)
    exact LP2 (40 - 0 + 1) 0 jj (by first | assumption | omega) (fun q h9 => absurd h9 (Nat.not_lt_zero q)) (fun _ _ => rfl) (Nat.lt_succ_self _) _ _ ls hP hD hS (lv_sub hl [1, 2, 3, 0] rfl)
  · skip
    refine lv_iconst (v := nI 0) hx hb dX2_lay_0 (by decide) ?_
    refine lv_istore_n (lv' := [(3, .int (nI 0)), (0, .ref (h 0)), (1, .int (nI 2)), (2, .int n1)]) hx hb dX2_lay_1 rfl hl (by decide) rfl (fun ls hl => ?_)
    have LP2 : ∀ (n2m : Nat), ∀ (k : Nat) (jk : Nat → Nat → Int64) (hk : k ≤ 40) (hz0 : ∀ q, q < k → jk 2 q = 0) (ho0 : ∀ a, a ≠ 2 → jk a = jj a), (40 - k < n2m) → ∀ (H : Heap) (locs : List Loc) (ls : Array Slot), PP G (sv G h z jk) H → va_D A (sv G h z jk) → va_S A s.heap H locs → lv_has ls 4 [(0, .ref (h 0)), (1, .int (nI 2)), (2, .int n1), (3, .int (nI k))] → W p l e (headSpec wsX2_lay ({ frames := 0, cells := 0, slots := 0, locals := 0 })).room s m ([.ref (h 0), .int (nI 2), .int n1] : List Value).toArray below meth c H locs 0 0 (MQ below (va_Qv (fun (v : oS × (Nat → Nat → Int64)) => ∃ jj', v = (oA z 1 (upd (z.2 1) 2 n1), jj') ∧ (∀ k, k < 40 → jj' 2 k = 0) ∧ (∀ a, a ≠ 2 → jj' a = jj a)) (fun v t => PP G (sv G h v.1 v.2) t.heap) A) ([.ref (h 0), .int (nI 2), .int n1] : List Value).toArray s 0 0 A) (F0 m 2 ls []) := by
      intro n2m
      induction n2m with
      | zero => intro k jk hk hz0 ho0 hmu H locs ls hP hD hS hl; exact absurd hmu (Nat.not_lt_zero _)
      | succ n2m ih2 =>
        intro k jk hk hz0 ho0 hmu H locs ls hP hD hS hl
        refine lv_iload_n hx hb dX2_lay_2 rfl (lv_at hl 3 rfl) ?_
        refine lv_bipush (v := nI 40) hx hb dX2_lay_3 (by decide) ?_
        refine lv_icmp_ge (tgt := 23) hx hb dX2_lay_5 (by decide) (fun c5 => ?_) (fun c5 => ?_)
        · skip
          have n5 : 40 ≤ k := (nI_leI (a := 40) (b := k) (by omega) (by omega)).mp c5
          refine lv_aload_n hx hb dX2_lay_23 rfl (lv_at hl 0 rfl) ?_
          refine va_get (D := gD G) (ci := 2) (v := .ref (h 2)) (C := RX2) (T := TX2) (N := 2) hx hb hts hiX2 hown hK hP 0 rfl rfl 1 (by decide) k16 (fun _ h9 => h9) rfl dX2_lay_24 ?_
          refine lv_iload_n hx hb dX2_lay_27 rfl (lv_at hl 1 rfl) ?_
          refine lv_iload_n hx hb dX2_lay_28 rfl (lv_at hl 2 rfl) ?_
          refine iastN (f := z.2 1) (n := 4) (k := 2) hx hb hK hP hD hS 2 rfl rfl (by omega) dX2_lay_29 (fun H locs hP hD hS => ?_)
          have hP : PP G (sv G h (oA z 1 (upd (z.2 1) 2 n1)) jk) H := hP
          have hD : va_D A (sv G h (oA z 1 (upd (z.2 1) 2 n1)) jk) := hD
          exact W.vret hx hb hr (fun t ht hW => ⟨⟨(oA z 1 (upd (z.2 1) 2 n1), jk), rfl, ⟨_, rfl, (fun q h9 => hz0 q (by omega)), ho0⟩, show PP G (sv G h (oA z 1 (upd (z.2 1) 2 n1)) jk) t.heap by rw [ht]; exact hP⟩, hS.F ht⟩) hS.2.2 dX2_lay_30
        · skip
          have n5 : ¬ (40 ≤ k) := fun q9 => c5 ((nI_leI (a := 40) (b := k) (by omega) (by omega)).mpr q9)
          refine lv_aload_n hx hb dX2_lay_8 rfl (lv_at hl 0 rfl) ?_
          refine va_get (D := gD G) (ci := 2) (v := .ref (h 1)) (C := RX2) (T := TX2) (N := 2) hx hb hts hiX2 hown hK hP 0 rfl rfl 0 (by decide) k11 (fun _ h9 => h9) rfl dX2_lay_9 ?_
          refine lv_iload_n hx hb dX2_lay_12 rfl (lv_at hl 1 rfl) ?_
          refine aaldJ (f := fun i => some (h (3 + i))) (n := 4) (k := 2) (b := h 5) hx hb hK hP 1 rfl rfl (by decide) rfl dX2_lay_13 ?_
          refine lv_iload_n hx hb dX2_lay_14 rfl (lv_at hl 3 rfl) ?_
          refine lv_lconst (v := 0) hx hb dX2_lay_15 (by decide) ?_
          refine lastN (f := jk 2) (n := 40) (k := k) hx hb hK hP hD hS 5 rfl rfl (by omega) dX2_lay_16 (fun H locs hP hD hS => ?_)
          have hP : PP G (sv G h z (va_up jk 2 (vp_updL (jk 2) k 0))) H := hP
          have hD : va_D A (sv G h z (va_up jk 2 (vp_updL (jk 2) k 0))) := hD
          refine lv_iinc (v := nI (k + 1)) (lv' := [(3, .int (nI (k + 1))), (0, .ref (h 0)), (1, .int (nI 2)), (2, .int n1)]) hx hb dX2_lay_17 hl (k := 3) rfl (nI_1 k) (by decide) rfl (fun ls hl => ?_)
          refine lv_goto (tgt := 2) hx hb dX2_lay_20 (by decide) ?_
          exact ih2 (k + 1) (va_up jk 2 (vp_updL (jk 2) k 0)) (by first | assumption | omega) (fun q h9 => by show vp_updL (jk 2) k 0 q = 0; by_cases e9 : q = k; (rw [e9]; exact pk_uLs); (rw [pk_uLn e9]; exact hz0 q (by omega))) (fun a h9 => (show (if a = 2 then _ else jk a) = jj a from by rw [if_neg h9]; exact ho0 a h9)) (by omega) _ _ ls hP hD hS (lv_sub hl [1, 2, 3, 0] rfl)
    exact LP2 (40 - 0 + 1) 0 jj (by first | assumption | omega) (fun q h9 => absurd h9 (Nat.not_lt_zero q)) (fun _ _ => rfl) (Nat.lt_succ_self _) _ _ ls hP hD hS (lv_sub hl [1, 2, 3, 0] rfl)
  · skip
    refine lv_iconst (v := nI 0) hx hb dX2_lay_0 (by decide) ?_
    refine lv_istore_n (lv' := [(3, .int (nI 0)), (0, .ref (h 0)), (1, .int (nI 3)), (2, .int n1)]) hx hb dX2_lay_1 rfl hl (by decide) rfl (fun ls hl => ?_)
    have LP2 : ∀ (n2m : Nat), ∀ (k : Nat) (jk : Nat → Nat → Int64) (hk : k ≤ 40) (hz0 : ∀ q, q < k → jk 3 q = 0) (ho0 : ∀ a, a ≠ 3 → jk a = jj a), (40 - k < n2m) → ∀ (H : Heap) (locs : List Loc) (ls : Array Slot), PP G (sv G h z jk) H → va_D A (sv G h z jk) → va_S A s.heap H locs → lv_has ls 4 [(0, .ref (h 0)), (1, .int (nI 3)), (2, .int n1), (3, .int (nI k))] → W p l e (headSpec wsX2_lay ({ frames := 0, cells := 0, slots := 0, locals := 0 })).room s m ([.ref (h 0), .int (nI 3), .int n1] : List Value).toArray below meth c H locs 0 0 (MQ below (va_Qv (fun (v : oS × (Nat → Nat → Int64)) => ∃ jj', v = (oA z 1 (upd (z.2 1) 3 n1), jj') ∧ (∀ k, k < 40 → jj' 3 k = 0) ∧ (∀ a, a ≠ 3 → jj' a = jj a)) (fun v t => PP G (sv G h v.1 v.2) t.heap) A) ([.ref (h 0), .int (nI 3), .int n1] : List Value).toArray s 0 0 A) (F0 m 2 ls []) := by
      intro n2m
      induction n2m with
      | zero => intro k jk hk hz0 ho0 hmu H locs ls hP hD hS hl; exact absurd hmu (Nat.not_lt_zero _)
      | succ n2m ih2 =>
        intro k jk hk hz0 ho0 hmu H locs ls hP hD hS hl
        refine lv_iload_n hx hb dX2_lay_2 rfl (lv_at hl 3 rfl) ?_
        refine lv_bipush (v := nI 40) hx hb dX2_lay_3 (by decide) ?_
        refine lv_icmp_ge (tgt := 23) hx hb dX2_lay_5 (by decide) (fun c5 => ?_) (fun c5 => ?_)
        · skip
          have n5 : 40 ≤ k := (nI_leI (a := 40) (b := k) (by omega) (by omega)).mp c5
          refine lv_aload_n hx hb dX2_lay_23 rfl (lv_at hl 0 rfl) ?_
          refine va_get (D := gD G) (ci := 2) (v := .ref (h 2)) (C := RX2) (T := TX2) (N := 2) hx hb hts hiX2 hown hK hP 0 rfl rfl 1 (by decide) k16 (fun _ h9 => h9) rfl dX2_lay_24 ?_
          refine lv_iload_n hx hb dX2_lay_27 rfl (lv_at hl 1 rfl) ?_
          refine lv_iload_n hx hb dX2_lay_28 rfl (lv_at hl 2 rfl) ?_
          refine iastN (f := z.2 1) (n := 4) (k := 3) hx hb hK hP hD hS 2 rfl rfl (by omega) dX2_lay_29 (fun H locs hP hD hS => ?_)
          have hP : PP G (sv G h (oA z 1 (upd (z.2 1) 3 n1)) jk) H := hP
          have hD : va_D A (sv G h (oA z 1 (upd (z.2 1) 3 n1)) jk) := hD
          exact W.vret hx hb hr (fun t ht hW => ⟨⟨(oA z 1 (upd (z.2 1) 3 n1), jk), rfl, ⟨_, rfl, (fun q h9 => hz0 q (by omega)), ho0⟩, show PP G (sv G h (oA z 1 (upd (z.2 1) 3 n1)) jk) t.heap by rw [ht]; exact hP⟩, hS.F ht⟩) hS.2.2 dX2_lay_30
        · skip
          have n5 : ¬ (40 ≤ k) := fun q9 => c5 ((nI_leI (a := 40) (b := k) (by omega) (by omega)).mpr q9)
          refine lv_aload_n hx hb dX2_lay_8 rfl (lv_at hl 0 rfl) ?_
          refine va_get (D := gD G) (ci := 2) (v := .ref (h 1)) (C := RX2) (T := TX2) (N := 2) hx hb hts hiX2 hown hK hP 0 rfl rfl 0 (by decide) k11 (fun _ h9 => h9) rfl dX2_lay_9 ?_
          refine lv_iload_n hx hb dX2_lay_12 rfl (lv_at hl 1 rfl) ?_
          refine aaldJ (f := fun i => some (h (3 + i))) (n := 4) (k := 3) (b := h 6) hx hb hK hP 1 rfl rfl (by decide) rfl dX2_lay_13 ?_
          refine lv_iload_n hx hb dX2_lay_14 rfl (lv_at hl 3 rfl) ?_
          refine lv_lconst (v := 0) hx hb dX2_lay_15 (by decide) ?_
          refine lastN (f := jk 3) (n := 40) (k := k) hx hb hK hP hD hS 6 rfl rfl (by omega) dX2_lay_16 (fun H locs hP hD hS => ?_)
          have hP : PP G (sv G h z (va_up jk 3 (vp_updL (jk 3) k 0))) H := hP
          have hD : va_D A (sv G h z (va_up jk 3 (vp_updL (jk 3) k 0))) := hD
          refine lv_iinc (v := nI (k + 1)) (lv' := [(3, .int (nI (k + 1))), (0, .ref (h 0)), (1, .int (nI 3)), (2, .int n1)]) hx hb dX2_lay_17 hl (k := 3) rfl (nI_1 k) (by decide) rfl (fun ls hl => ?_)
          refine lv_goto (tgt := 2) hx hb dX2_lay_20 (by decide) ?_
          exact ih2 (k + 1) (va_up jk 3 (vp_updL (jk 3) k 0)) (by first | assumption | omega) (fun q h9 => by show vp_updL (jk 3) k 0 q = 0; by_cases e9 : q = k; (rw [e9]; exact pk_uLs); (rw [pk_uLn e9]; exact hz0 q (by omega))) (fun a h9 => (show (if a = 3 then _ else jk a) = jj a from by rw [if_neg h9]; exact ho0 a h9)) (by omega) _ _ ls hP hD hS (lv_sub hl [1, 2, 3, 0] rfl)
    exact LP2 (40 - 0 + 1) 0 jj (by first | assumption | omega) (fun q h9 => absurd h9 (Nat.not_lt_zero q)) (fun _ _ => rfl) (Nat.lt_succ_self _) _ _ ls hP hD hS (lv_sub hl [1, 2, 3, 0] rfl)
set_option maxHeartbeats 1000000 in
set_option maxRecDepth 100000 in
theorem mt_X4_sheetS (l : Launch) (G : gG) (h : Nat → Nat) (sz : Nat) (x : oS) (wn : oS) (wa : oS) (w0 : oS) (w1 : oS) (rd : oS) (wr : oS) (z : oS) (jj : Nat → Nat → Int64) (lt : Int64) (sg : pS) (zz : Nat → Nat → Int64) (s1 : Int32) (n1 : Int32) (hIS : IS sg) (hRX : RepX x wn wa w0 w1 rd z jj sg zz) : Met l yX4_sheet wsX4_sheet ({ frames := 1, cells := 0, slots := 0, locals := 23 }) (preW G (xw G h x wn wa w0 w1 rd wr z jj lt) sz [.ref (h 0), .int s1, .int n1]) (va_Qi (fun (r : Int32) (v : oS × oS × oS × oS × oS × oS × oS × oS × (Nat → Nat → Int64) × Int64) => RpX v (sheF sg s1 n1) (sheZ zz s1 n1) ∧ r = sheA s1 n1) (fun v t => PP G (xw G h v.1 v.2.1 v.2.2.1 v.2.2.2.1 v.2.2.2.2.1 v.2.2.2.2.2.1 v.2.2.2.2.2.2.1 v.2.2.2.2.2.2.2.1 v.2.2.2.2.2.2.2.2.1 v.2.2.2.2.2.2.2.2.2) t.heap) (va_A (xw G h x wn wa w0 w1 rd wr z jj lt) sz)) 0 0 (va_A (xw G h x wn wa w0 w1 rd wr z jj lt) sz) := by
  refine Met.ofW (cc := cX4_sheet) (maxL := 3) (ret := (some .int)) (by decide) rfl ?_
  intro p e s m args below meth c s₁ B hml hv
  obtain ⟨ha, hsz, hP, hK, hN, hD0⟩ := hv
  subst ha
  have hx := B.exec
  have hb := B.bytes
  have hr := B.returns
  have hts := atoms_spec (ws := wsX4_sheet) B.pre
  have hown : s.vm.findClass RX4 = some m.cls := findClass_of_methodNamed B.named
  have hlocks := B.notSynchronized
  subst hsz
  have hD := hD0.self (sz := s.heap.size)
  generalize hAe : va_A (xw G h x wn wa w0 w1 rd wr z jj lt) s.heap.size = A at hD ⊢
  have hA : ∀ q : Nat, s.heap.size ≤ q → A q := fun q h => by rw [← hAe]; exact Or.inr h
  clear hAe hD0
  have hS : va_S A s.heap s.heap [] := va_S.rf
  have hiX4 : ∀ w ∈ wsX40, w ∈ wsX4_sheet := fun w h9 => List.mem_cons_of_mem _ (List.mem_append_left _ (List.mem_append_right _ (h9)))
  have k37 := hts (.fieldLink RX4 37 "WovenHistory" "sheets" "LWovenHistory$Sheets;") (List.mem_of_getElem? (i := 1) rfl)
  have hl := lv_entry ([.ref (h 0), .int s1, .int n1]) (n := 3) (Nat.le_of_ble_eq_true rfl)
  rw [lg_entry_eq]
  generalize (lg_sl ([.ref (h 0), .int s1, .int n1]) ++ List.replicate (3 - (lg_sl ([.ref (h 0), .int s1, .int n1])).length) Slot.unset).toArray = ls at hl ⊢
  have hl : lv_has ls 3 [(0, .ref (h 0)), (1, .int s1), (2, .int n1)] := hl
  have hC := hRX.1
  have hic := hIS.ic
  have hv24 := hIS.1
  have hl120 := hIS.2.1
  have ho1 := hIS.2.2.1
  refine lv_aload_n hx hb dX4_sheet_0 rfl (lv_at hl 0 rfl) ?_
  refine va_get (D := gD G) (ci := 4) (v := .ref (h 70)) (C := RX4) (T := TX4) (N := 9) hx hb hts hiX4 hown hK hP 0 (xp_0 _ _ _ _ _ _ _ _ _ _ _ _) rfl 5 (by decide) k37 (fun _ h9 => h9) rfl dX4_sheet_1 ?_
  refine lv_iload_n hx hb dX4_sheet_4 rfl (lv_at hl 1 rfl) ?_
  refine cRi (w := sv G (fun k => h (70 + k)) z jj) (As := [.int s1]) (rest := []) ⟨hx, hb, hml, hown, hts⟩ (mt_X2_hasNumber l G (fun k => h (70 + k)) z jj s1) (cwV 1 hts gX4_sheet_X2_hasNumber rfl rfl rfl ⟨rfl, hd_X2_hasNumber⟩ ⟨Nat.le_of_ble_eq_true rfl, Nat.le_of_ble_eq_true rfl⟩) hK hN (hP.sub [47, 48, 49, 50, 51, 52, 53] (xf_z _ _ _ _ _ _ _ _ _ _ _ _)) 0 2 rfl rfl rfl hl.1 rfl (Nat.le_of_ble_eq_true rfl) ⟨Nat.zero_le _, Nat.zero_le _⟩ dX4_sheet_5 (fun r5 hw5 => ?_)
  rcases hw5 with ⟨rfl, j5, hj5, rfl⟩ | ⟨rfl, hn5⟩
  · skip
    refine lv_if_ne (tgt := 14) hx hb dX4_sheet_8 (by decide) (fun _ => ?_) (fun c9 => absurd c9 (by decide))
    refine lv_iload_n hx hb dX4_sheet_14 rfl (lv_at hl 2 rfl) ?_
    refine lv_if_lt (tgt := 24) hx hb dX4_sheet_15 (by decide) (fun c15 => ?_) (fun c15 => ?_)
    · skip
      refine lv_ldc (v := (-1000000002 : Int32)) hx hb hown (hts (.constant RX4 56 (-1000000002)) (List.mem_of_getElem? (i := 3) rfl)) dX4_sheet_24 ?_
      exact W.iret (v := (-1000000002 : Int32)) hx hb hr (fun t ht hW => ⟨⟨(-1000000002 : Int32), (x, wn, wa, w0, w1, rd, wr, z, jj, lt), rfl, ⟨by rw [sheF, sheZ, if_neg (not_not_intro (inR_t hj5 (by omega))), if_neg (not_not_intro (inR_t hj5 (by omega))), if_pos (show ¬ inR n1 41 = true from inR_f (by omega) (fun j hj => by first | exact le_n1 (n := 40) (by omega) c15 j (by omega) | exact le_n2 (n := 40) (by omega) c21 j (by omega))), if_pos (show ¬ inR n1 41 = true from inR_f (by omega) (fun j hj => by first | exact le_n1 (n := 40) (by omega) c15 j (by omega) | exact le_n2 (n := 40) (by omega) c21 j (by omega)))]; exact hRX, by rw [sheA, if_neg (not_not_intro (inR_t hj5 (by omega))), if_pos (show ¬ inR n1 41 = true from inR_f (by omega) (fun j hj => by first | exact le_n1 (n := 40) (by omega) c15 j (by omega) | exact le_n2 (n := 40) (by omega) c21 j (by omega)))]⟩, show PP G (xw G h x wn wa w0 w1 rd wr z jj lt) t.heap by rw [ht]; exact hP⟩, hS.F ht⟩) hS.2.2 dX4_sheet_26
    · skip
      refine lv_iload_n hx hb dX4_sheet_18 rfl (lv_at hl 2 rfl) ?_
      refine lv_bipush (v := nI 40) hx hb dX4_sheet_19 (by decide) ?_
      refine lv_icmp_le (tgt := 27) hx hb dX4_sheet_21 (by decide) (fun c21 => ?_) (fun c21 => ?_)
      · skip
        obtain ⟨q1, hq1, rfl⟩ := le_y (n := 40) (by omega) c15 c21
        refine lv_aload_n hx hb dX4_sheet_27 rfl (lv_at hl 0 rfl) ?_
        refine va_get (D := gD G) (ci := 4) (v := .ref (h 70)) (C := RX4) (T := TX4) (N := 9) hx hb hts hiX4 hown hK hP 0 (xp_0 _ _ _ _ _ _ _ _ _ _ _ _) rfl 5 (by decide) k37 (fun _ h9 => h9) rfl dX4_sheet_28 ?_
        refine lv_iload_n hx hb dX4_sheet_31 rfl (lv_at hl 1 rfl) ?_
        refine lv_iload_n hx hb dX4_sheet_32 rfl (lv_at hl 2 rfl) ?_
        refine cWv (As := [.int (nI j5), .int (nI q1)]) (rest := []) (S := oS × (Nat → Nat → Int64)) (wa := xw G h x wn wa w0 w1 rd wr z jj lt) (wc := sv G (fun k => h (70 + k)) z jj) (w1 := fun v => sv G (fun k => h (70 + k)) v.1 v.2) (wa' := fun v => xw G h x wn wa w0 w1 rd wr v.1 v.2 lt) ⟨hx, hb, hml, hown, hts⟩ (mt_X2_layF l G (fun k => h (70 + k)) _ z jj j5 (nI q1) (by first | assumption | omega)) (cwV 2 hts gX4_sheet_X2_lay rfl rfl rfl ⟨rfl, hd_X2_lay⟩ ⟨Nat.le_of_ble_eq_true rfl, Nat.le_of_ble_eq_true rfl⟩) hK hN hP hD hS hA [47, 48, 49, 50, 51, 52, 53] (xc_z _ _ _ _ _ _ _ _ _ _ _ _) (by decide) (xf_z _ _ _ _ _ _ _ _ _ _ _ _) (fun _ => rfl) (fun v => xo_z _ _ _ _ _ _ _ _ _ _ _ _ v) (fun v => xm_z _ _ _ _ _ _ _ _ _ _ _ _ v) 0 2 rfl rfl rfl hl.1 rfl (Nat.le_of_ble_eq_true rfl) ⟨Nat.zero_le _, Nat.zero_le _⟩ dX4_sheet_33 (fun u33 H locs hw33 hP hD hS => ?_)
        obtain ⟨jj33, rfl, hz33, ho33⟩ := hw33
        have hP : PP G (xw G h x wn wa w0 w1 rd wr (oA z 1 (upd (z.2 1) j5 (nI q1))) jj33 lt) H := hP
        have hD : va_D A (xw G h x wn wa w0 w1 rd wr (oA z 1 (upd (z.2 1) j5 (nI q1))) jj33 lt) := hD
        refine lv_iload_n hx hb dX4_sheet_36 rfl (lv_at hl 2 rfl) ?_
        exact W.iret (v := nI q1) hx hb hr (fun t ht hW => ⟨⟨nI q1, (x, wn, wa, w0, w1, rd, wr, oA z 1 (upd (z.2 1) j5 (nI q1)), jj33, lt), rfl, ⟨by rw [sheF, sheZ, if_neg (not_not_intro (inR_t hj5 (by omega))), if_neg (not_not_intro (inR_t hj5 (by omega))), if_neg (show ¬ ¬ inR (nI q1) 41 = true from not_not_intro (inR_t (by omega) (by omega))), if_neg (show ¬ ¬ inR (nI q1) 41 = true from not_not_intro (inR_t (by omega) (by omega))), vN_n (j := j5) (by omega), vN_n (j := q1) (by omega)]; exact RepX.sh hRX (ShX_lay hRX.2.2.2.2.2.2.2.2 hj5 hq1 hz33 ho33) hj5, by rw [sheA, if_neg (not_not_intro (inR_t hj5 (by omega))), if_neg (show ¬ ¬ inR (nI q1) 41 = true from not_not_intro (inR_t (by omega) (by omega)))]⟩, show PP G (xw G h x wn wa w0 w1 rd wr (oA z 1 (upd (z.2 1) j5 (nI q1))) jj33 lt) t.heap by rw [ht]; exact hP⟩, hS.F ht⟩) hS.2.2 dX4_sheet_37
      · skip
        refine lv_ldc (v := (-1000000002 : Int32)) hx hb hown (hts (.constant RX4 56 (-1000000002)) (List.mem_of_getElem? (i := 3) rfl)) dX4_sheet_24 ?_
        exact W.iret (v := (-1000000002 : Int32)) hx hb hr (fun t ht hW => ⟨⟨(-1000000002 : Int32), (x, wn, wa, w0, w1, rd, wr, z, jj, lt), rfl, ⟨by rw [sheF, sheZ, if_neg (not_not_intro (inR_t hj5 (by omega))), if_neg (not_not_intro (inR_t hj5 (by omega))), if_pos (show ¬ inR n1 41 = true from inR_f (by omega) (fun j hj => by first | exact le_n1 (n := 40) (by omega) c15 j (by omega) | exact le_n2 (n := 40) (by omega) c21 j (by omega))), if_pos (show ¬ inR n1 41 = true from inR_f (by omega) (fun j hj => by first | exact le_n1 (n := 40) (by omega) c15 j (by omega) | exact le_n2 (n := 40) (by omega) c21 j (by omega)))]; exact hRX, by rw [sheA, if_neg (not_not_intro (inR_t hj5 (by omega))), if_pos (show ¬ inR n1 41 = true from inR_f (by omega) (fun j hj => by first | exact le_n1 (n := 40) (by omega) c15 j (by omega) | exact le_n2 (n := 40) (by omega) c21 j (by omega)))]⟩, show PP G (xw G h x wn wa w0 w1 rd wr z jj lt) t.heap by rw [ht]; exact hP⟩, hS.F ht⟩) hS.2.2 dX4_sheet_26
  · skip
    refine lv_if_ne (tgt := 14) hx hb dX4_sheet_8 (by decide) (fun c9 => absurd (by decide) c9) (fun _ => ?_)
    refine lv_ldc (v := (-1000000001 : Int32)) hx hb hown (hts (.constant RX4 110 (-1000000001)) (List.mem_of_getElem? (i := 2) rfl)) dX4_sheet_11 ?_
    exact W.iret (v := (-1000000001 : Int32)) hx hb hr (fun t ht hW => ⟨⟨(-1000000001 : Int32), (x, wn, wa, w0, w1, rd, wr, z, jj, lt), rfl, ⟨by rw [sheF, sheZ, if_pos (inR_f (by omega) hn5), if_pos (inR_f (by omega) hn5)]; exact hRX, by rw [sheA, if_pos (inR_f (by omega) hn5)]⟩, show PP G (xw G h x wn wa w0 w1 rd wr z jj lt) t.heap by rw [ht]; exact hP⟩, hS.F ht⟩) hS.2.2 dX4_sheet_13
set_option maxHeartbeats 1000000 in
set_option maxRecDepth 100000 in
theorem mt_X4_setS (l : Launch) (G : gG) (h : Nat → Nat) (sz : Nat) (x : oS) (wn : oS) (wa : oS) (w0 : oS) (w1 : oS) (rd : oS) (wr : oS) (z : oS) (jj : Nat → Nat → Int64) (lt : Int64) (sg : pS) (zz : Nat → Nat → Int64) (s1 : Int32) (i1 : Int32) (xx : Int64) (hIS : IS sg) (hRX : RepX x wn wa w0 w1 rd z jj sg zz) : Met l yX4_set wsX4_set ({ frames := 2, cells := 0, slots := 0, locals := 44 }) (preW G (xw G h x wn wa w0 w1 rd wr z jj lt) sz [.ref (h 0), .int s1, .int i1, .long xx]) (va_Ql (fun (r : Int64) (v : oS × oS × oS × oS × oS × oS × oS × oS × (Nat → Nat → Int64) × Int64) => RpX v (sg) (setZ sg zz s1 i1 xx) ∧ r = getA sg zz s1 i1) (fun v t => PP G (xw G h v.1 v.2.1 v.2.2.1 v.2.2.2.1 v.2.2.2.2.1 v.2.2.2.2.2.1 v.2.2.2.2.2.2.1 v.2.2.2.2.2.2.2.1 v.2.2.2.2.2.2.2.2.1 v.2.2.2.2.2.2.2.2.2) t.heap) (va_A (xw G h x wn wa w0 w1 rd wr z jj lt) sz)) 0 0 (va_A (xw G h x wn wa w0 w1 rd wr z jj lt) sz) := by
  refine Met.ofW (cc := cX4_set) (maxL := 8) (ret := (some .long)) (by decide) rfl ?_
  intro p e s m args below meth c s₁ B hml hv
  obtain ⟨ha, hsz, hP, hK, hN, hD0⟩ := hv
  subst ha
  have hx := B.exec
  have hb := B.bytes
  have hr := B.returns
  have hts := atoms_spec (ws := wsX4_set) B.pre
  have hown : s.vm.findClass RX4 = some m.cls := findClass_of_methodNamed B.named
  have hlocks := B.notSynchronized
  subst hsz
  have hD := hD0.self (sz := s.heap.size)
  generalize hAe : va_A (xw G h x wn wa w0 w1 rd wr z jj lt) s.heap.size = A at hD ⊢
  have hA : ∀ q : Nat, s.heap.size ≤ q → A q := fun q h => by rw [← hAe]; exact Or.inr h
  clear hAe hD0
  have hS : va_S A s.heap s.heap [] := va_S.rf
  have hiX4 : ∀ w ∈ wsX40, w ∈ wsX4_set := fun w h9 => List.mem_cons_of_mem _ (List.mem_append_left _ (List.mem_append_right _ (h9)))
  have k37 := hts (.fieldLink RX4 37 "WovenHistory" "sheets" "LWovenHistory$Sheets;") (List.mem_of_getElem? (i := 1) rfl)
  have hiX2 : ∀ w ∈ wsX20, w ∈ wsX4_set := fun w h9 => List.mem_cons_of_mem _ (List.mem_append_right _ (h9))
  have k229 : (Cond.fieldLinkNest "WovenHistory" 229 "WovenHistory$Sheets" "numbers" "[[J" "WovenHistory").before _ s = true := va_Nw.use (A := ([.ref (h 0), .int s1, .int i1, .long xx] : List Value).toArray) rfl (hN.1 ("WovenHistory", 229, "WovenHistory$Sheets", "numbers", "[[J") (List.mem_of_getElem? (i := 7) rfl))
  have hl := lv_entry ([.ref (h 0), .int s1, .int i1, .long xx]) (n := 8) (Nat.le_of_ble_eq_true rfl)
  rw [lg_entry_eq]
  generalize (lg_sl ([.ref (h 0), .int s1, .int i1, .long xx]) ++ List.replicate (8 - (lg_sl ([.ref (h 0), .int s1, .int i1, .long xx])).length) Slot.unset).toArray = ls at hl ⊢
  have hl : lv_has ls 8 [(0, .ref (h 0)), (1, .int s1), (2, .int i1), (3, .long xx)] := hl
  have hC := hRX.1
  have hic := hIS.ic
  have hv24 := hIS.1
  have hl120 := hIS.2.1
  have ho1 := hIS.2.2.1
  refine lv_aload_n hx hb dX4_set_0 rfl (lv_at hl 0 rfl) ?_
  refine va_get (D := gD G) (ci := 4) (v := .ref (h 70)) (C := RX4) (T := TX4) (N := 9) hx hb hts hiX4 hown hK hP 0 (xp_0 _ _ _ _ _ _ _ _ _ _ _ _) rfl 5 (by decide) k37 (fun _ h9 => h9) rfl dX4_set_1 ?_
  refine lv_iload_n hx hb dX4_set_4 rfl (lv_at hl 1 rfl) ?_
  refine lv_iload_n hx hb dX4_set_5 rfl (lv_at hl 2 rfl) ?_
  refine lv_iconst (v := nI 1) hx hb dX4_set_6 (by decide) ?_
  refine cRi (w := sv G (fun k => h (70 + k)) z jj) (As := [.int s1, .int i1, .int (nI 1)]) (rest := []) ⟨hx, hb, hml, hown, hts⟩ (mt_X2_findWrong l G (fun k => h (70 + k)) z jj s1 i1 (nI 1) ((ShX.s4 hRX.2.2.2.2.2.2.2.2 hIS))) (cwV 3 hts gX4_set_X2_findWrong rfl rfl rfl ⟨rfl, hd_X2_findWrong⟩ ⟨Nat.le_of_ble_eq_true rfl, Nat.le_of_ble_eq_true rfl⟩) hK hN (hP.sub [47, 48, 49, 50, 51, 52, 53] (xf_z _ _ _ _ _ _ _ _ _ _ _ _)) 0 2 rfl rfl rfl hl.1 rfl (Nat.le_of_ble_eq_true rfl) ⟨Nat.zero_le _, Nat.zero_le _⟩ dX4_set_7 (fun r7 hw7 => ?_)
  rcases hw7 with ⟨rfl, js7, ji7, nn7, q7, hjs7, rfl, hq7, eq7, rfl, enn7, hs7⟩ | ⟨rfl, hnu7⟩ | ⟨rfl, js7, hjs7, ejs7, eq7⟩ | ⟨rfl, js7, q7, hjs7, ejs7, hq7, eq7, hpl7⟩
  · skip
    obtain ⟨hzs, hzv⟩ := ShX.sz hRX.2.2.2.2.2.2.2.2 hIS hjs7 hq7 eq7
    have hnn : 1 = nn7 := (nI_eq (a := 1) (b := nn7) (by omega) (by omega)).mp enn7
    have hE : refS sg (nI js7) (nI ji7) (1) = 0 := ref_ok hjs7 hzs hq7 (by omega)
    refine lv_istore (lv' := [(5, .int (0 : Int32)), (0, .ref (h 0)), (1, .int (nI js7)), (2, .int (nI ji7)), (3, .long xx)]) hx hb dX4_set_10 hl (by decide) rfl (fun ls hl => ?_)
    refine lv_iload hx hb dX4_set_12 (lv_at hl 0 rfl) ?_
    refine lv_if_eq (tgt := 21) hx hb dX4_set_14 (by decide) (fun _ => ?_) (fun c9 => absurd (by decide) c9)
    rcases (show js7 = 0 ∨ js7 = 1 ∨ js7 = 2 ∨ js7 = 3 by omega) with rfl | rfl | rfl | rfl
    · skip
      refine lv_aload_n hx hb dX4_set_21 rfl (lv_at hl 1 rfl) ?_
      refine va_get (D := gD G) (ci := 4) (v := .ref (h 70)) (C := RX4) (T := TX4) (N := 9) hx hb hts hiX4 hown hK hP 0 (xp_0 _ _ _ _ _ _ _ _ _ _ _ _) rfl 5 (by decide) k37 (fun _ h9 => h9) rfl dX4_set_22 ?_
      refine va_getN (D := gD G) (ci := 2) (v := .ref (h 71)) (C := RX2) (T := TX2) (N := 2) hx hb hts hiX2 hown hK hP 47 (xp_47 _ _ _ _ _ _ _ _ _ _ _ _) rfl 0 (by decide) k229 (fun _ h9 => h9) rfl dX4_set_25 ?_
      refine lv_iload_n hx hb dX4_set_28 rfl (lv_at hl 2 rfl) ?_
      refine aaldJ (f := fun i => some (h (70 + (3 + i)))) (n := 4) (k := 0) (b := h 73) hx hb hK hP 48 (xp_48 _ _ _ _ _ _ _ _ _ _ _ _) rfl (by decide) rfl dX4_set_29 ?_
      refine lv_iload_n hx hb dX4_set_30 rfl (lv_at hl 3 rfl) ?_
      refine laldN (f := jj 0) (n := 40) (k := ji7) hx hb hK hP 50 (xp_50 _ _ _ _ _ _ _ _ _ _ _ _) rfl (by omega) dX4_set_31 ?_
      refine lv_lstore (lv' := [(6, .long ((jj 0) ji7)), (5, .int (0 : Int32)), (0, .ref (h 0)), (1, .int (nI 0)), (2, .int (nI ji7)), (3, .long xx)]) hx hb dX4_set_32 hl (by decide) rfl (fun ls hl => ?_)
      refine lv_aload_n hx hb dX4_set_34 rfl (lv_at hl 2 rfl) ?_
      refine va_get (D := gD G) (ci := 4) (v := .ref (h 70)) (C := RX4) (T := TX4) (N := 9) hx hb hts hiX4 hown hK hP 0 (xp_0 _ _ _ _ _ _ _ _ _ _ _ _) rfl 5 (by decide) k37 (fun _ h9 => h9) rfl dX4_set_35 ?_
      refine va_getN (D := gD G) (ci := 2) (v := .ref (h 71)) (C := RX2) (T := TX2) (N := 2) hx hb hts hiX2 hown hK hP 47 (xp_47 _ _ _ _ _ _ _ _ _ _ _ _) rfl 0 (by decide) k229 (fun _ h9 => h9) rfl dX4_set_38 ?_
      refine lv_iload_n hx hb dX4_set_41 rfl (lv_at hl 3 rfl) ?_
      refine aaldJ (f := fun i => some (h (70 + (3 + i)))) (n := 4) (k := 0) (b := h 73) hx hb hK hP 48 (xp_48 _ _ _ _ _ _ _ _ _ _ _ _) rfl (by decide) rfl dX4_set_42 ?_
      refine lv_iload_n hx hb dX4_set_43 rfl (lv_at hl 4 rfl) ?_
      refine lv_lload_n hx hb dX4_set_44 rfl (lv_at hl 5 rfl) ?_
      refine lastN (f := jj 0) (n := 40) (k := ji7) hx hb hK hP hD hS 50 (xp_50 _ _ _ _ _ _ _ _ _ _ _ _) rfl (by omega) dX4_set_45 (fun H locs hP hD hS => ?_)
      rw [xs_50] at hP hD
      have hP : PP G (xw G h x wn wa w0 w1 rd wr z (va_up jj 0 (vp_updL (jj 0) ji7 xx)) lt) H := hP
      have hD : va_D A (xw G h x wn wa w0 w1 rd wr z (va_up jj 0 (vp_updL (jj 0) ji7 xx)) lt) := hD
      refine lv_lload hx hb dX4_set_46 (lv_at hl 0 rfl) ?_
      exact W.lret (v := (jj 0) ji7) hx hb hr (fun t ht hW => ⟨⟨(jj 0) ji7, (x, wn, wa, w0, w1, rd, wr, z, va_up jj 0 (vp_updL (jj 0) ji7 xx), lt), rfl, ⟨by rw [setZ, if_pos hE, vN_n (j := 0) (by omega), vN_n (j := ji7) (by omega)]; exact RepX.zn hRX (ShX_set hRX.2.2.2.2.2.2.2.2), by rw [getA, if_pos hE, vN_n (j := 0) (by omega), vN_n (j := ji7) (by omega)]; exact hzv ji7 (by omega)⟩, show PP G (xw G h x wn wa w0 w1 rd wr z (va_up jj 0 (vp_updL (jj 0) ji7 xx)) lt) t.heap by rw [ht]; exact hP⟩, hS.F ht⟩) hS.2.2 dX4_set_48
    · skip
      refine lv_aload_n hx hb dX4_set_21 rfl (lv_at hl 1 rfl) ?_
      refine va_get (D := gD G) (ci := 4) (v := .ref (h 70)) (C := RX4) (T := TX4) (N := 9) hx hb hts hiX4 hown hK hP 0 (xp_0 _ _ _ _ _ _ _ _ _ _ _ _) rfl 5 (by decide) k37 (fun _ h9 => h9) rfl dX4_set_22 ?_
      refine va_getN (D := gD G) (ci := 2) (v := .ref (h 71)) (C := RX2) (T := TX2) (N := 2) hx hb hts hiX2 hown hK hP 47 (xp_47 _ _ _ _ _ _ _ _ _ _ _ _) rfl 0 (by decide) k229 (fun _ h9 => h9) rfl dX4_set_25 ?_
      refine lv_iload_n hx hb dX4_set_28 rfl (lv_at hl 2 rfl) ?_
      refine aaldJ (f := fun i => some (h (70 + (3 + i)))) (n := 4) (k := 1) (b := h 74) hx hb hK hP 48 (xp_48 _ _ _ _ _ _ _ _ _ _ _ _) rfl (by decide) rfl dX4_set_29 ?_
      refine lv_iload_n hx hb dX4_set_30 rfl (lv_at hl 3 rfl) ?_
      refine laldN (f := jj 1) (n := 40) (k := ji7) hx hb hK hP 51 (xp_51 _ _ _ _ _ _ _ _ _ _ _ _) rfl (by omega) dX4_set_31 ?_
      refine lv_lstore (lv' := [(6, .long ((jj 1) ji7)), (5, .int (0 : Int32)), (0, .ref (h 0)), (1, .int (nI 1)), (2, .int (nI ji7)), (3, .long xx)]) hx hb dX4_set_32 hl (by decide) rfl (fun ls hl => ?_)
      refine lv_aload_n hx hb dX4_set_34 rfl (lv_at hl 2 rfl) ?_
      refine va_get (D := gD G) (ci := 4) (v := .ref (h 70)) (C := RX4) (T := TX4) (N := 9) hx hb hts hiX4 hown hK hP 0 (xp_0 _ _ _ _ _ _ _ _ _ _ _ _) rfl 5 (by decide) k37 (fun _ h9 => h9) rfl dX4_set_35 ?_
      refine va_getN (D := gD G) (ci := 2) (v := .ref (h 71)) (C := RX2) (T := TX2) (N := 2) hx hb hts hiX2 hown hK hP 47 (xp_47 _ _ _ _ _ _ _ _ _ _ _ _) rfl 0 (by decide) k229 (fun _ h9 => h9) rfl dX4_set_38 ?_
      refine lv_iload_n hx hb dX4_set_41 rfl (lv_at hl 3 rfl) ?_
      refine aaldJ (f := fun i => some (h (70 + (3 + i)))) (n := 4) (k := 1) (b := h 74) hx hb hK hP 48 (xp_48 _ _ _ _ _ _ _ _ _ _ _ _) rfl (by decide) rfl dX4_set_42 ?_
      refine lv_iload_n hx hb dX4_set_43 rfl (lv_at hl 4 rfl) ?_
      refine lv_lload_n hx hb dX4_set_44 rfl (lv_at hl 5 rfl) ?_
      refine lastN (f := jj 1) (n := 40) (k := ji7) hx hb hK hP hD hS 51 (xp_51 _ _ _ _ _ _ _ _ _ _ _ _) rfl (by omega) dX4_set_45 (fun H locs hP hD hS => ?_)
      rw [xs_51] at hP hD
      have hP : PP G (xw G h x wn wa w0 w1 rd wr z (va_up jj 1 (vp_updL (jj 1) ji7 xx)) lt) H := hP
      have hD : va_D A (xw G h x wn wa w0 w1 rd wr z (va_up jj 1 (vp_updL (jj 1) ji7 xx)) lt) := hD
      refine lv_lload hx hb dX4_set_46 (lv_at hl 0 rfl) ?_
      exact W.lret (v := (jj 1) ji7) hx hb hr (fun t ht hW => ⟨⟨(jj 1) ji7, (x, wn, wa, w0, w1, rd, wr, z, va_up jj 1 (vp_updL (jj 1) ji7 xx), lt), rfl, ⟨by rw [setZ, if_pos hE, vN_n (j := 1) (by omega), vN_n (j := ji7) (by omega)]; exact RepX.zn hRX (ShX_set hRX.2.2.2.2.2.2.2.2), by rw [getA, if_pos hE, vN_n (j := 1) (by omega), vN_n (j := ji7) (by omega)]; exact hzv ji7 (by omega)⟩, show PP G (xw G h x wn wa w0 w1 rd wr z (va_up jj 1 (vp_updL (jj 1) ji7 xx)) lt) t.heap by rw [ht]; exact hP⟩, hS.F ht⟩) hS.2.2 dX4_set_48
    · skip
      refine lv_aload_n hx hb dX4_set_21 rfl (lv_at hl 1 rfl) ?_
      refine va_get (D := gD G) (ci := 4) (v := .ref (h 70)) (C := RX4) (T := TX4) (N := 9) hx hb hts hiX4 hown hK hP 0 (xp_0 _ _ _ _ _ _ _ _ _ _ _ _) rfl 5 (by decide) k37 (fun _ h9 => h9) rfl dX4_set_22 ?_
      refine va_getN (D := gD G) (ci := 2) (v := .ref (h 71)) (C := RX2) (T := TX2) (N := 2) hx hb hts hiX2 hown hK hP 47 (xp_47 _ _ _ _ _ _ _ _ _ _ _ _) rfl 0 (by decide) k229 (fun _ h9 => h9) rfl dX4_set_25 ?_
      refine lv_iload_n hx hb dX4_set_28 rfl (lv_at hl 2 rfl) ?_
      refine aaldJ (f := fun i => some (h (70 + (3 + i)))) (n := 4) (k := 2) (b := h 75) hx hb hK hP 48 (xp_48 _ _ _ _ _ _ _ _ _ _ _ _) rfl (by decide) rfl dX4_set_29 ?_
      refine lv_iload_n hx hb dX4_set_30 rfl (lv_at hl 3 rfl) ?_
      refine laldN (f := jj 2) (n := 40) (k := ji7) hx hb hK hP 52 (xp_52 _ _ _ _ _ _ _ _ _ _ _ _) rfl (by omega) dX4_set_31 ?_
      refine lv_lstore (lv' := [(6, .long ((jj 2) ji7)), (5, .int (0 : Int32)), (0, .ref (h 0)), (1, .int (nI 2)), (2, .int (nI ji7)), (3, .long xx)]) hx hb dX4_set_32 hl (by decide) rfl (fun ls hl => ?_)
      refine lv_aload_n hx hb dX4_set_34 rfl (lv_at hl 2 rfl) ?_
      refine va_get (D := gD G) (ci := 4) (v := .ref (h 70)) (C := RX4) (T := TX4) (N := 9) hx hb hts hiX4 hown hK hP 0 (xp_0 _ _ _ _ _ _ _ _ _ _ _ _) rfl 5 (by decide) k37 (fun _ h9 => h9) rfl dX4_set_35 ?_
      refine va_getN (D := gD G) (ci := 2) (v := .ref (h 71)) (C := RX2) (T := TX2) (N := 2) hx hb hts hiX2 hown hK hP 47 (xp_47 _ _ _ _ _ _ _ _ _ _ _ _) rfl 0 (by decide) k229 (fun _ h9 => h9) rfl dX4_set_38 ?_
      refine lv_iload_n hx hb dX4_set_41 rfl (lv_at hl 3 rfl) ?_
      refine aaldJ (f := fun i => some (h (70 + (3 + i)))) (n := 4) (k := 2) (b := h 75) hx hb hK hP 48 (xp_48 _ _ _ _ _ _ _ _ _ _ _ _) rfl (by decide) rfl dX4_set_42 ?_
      refine lv_iload_n hx hb dX4_set_43 rfl (lv_at hl 4 rfl) ?_
      refine lv_lload_n hx hb dX4_set_44 rfl (lv_at hl 5 rfl) ?_
      refine lastN (f := jj 2) (n := 40) (k := ji7) hx hb hK hP hD hS 52 (xp_52 _ _ _ _ _ _ _ _ _ _ _ _) rfl (by omega) dX4_set_45 (fun H locs hP hD hS => ?_)
      rw [xs_52] at hP hD
      have hP : PP G (xw G h x wn wa w0 w1 rd wr z (va_up jj 2 (vp_updL (jj 2) ji7 xx)) lt) H := hP
      have hD : va_D A (xw G h x wn wa w0 w1 rd wr z (va_up jj 2 (vp_updL (jj 2) ji7 xx)) lt) := hD
      refine lv_lload hx hb dX4_set_46 (lv_at hl 0 rfl) ?_
      exact W.lret (v := (jj 2) ji7) hx hb hr (fun t ht hW => ⟨⟨(jj 2) ji7, (x, wn, wa, w0, w1, rd, wr, z, va_up jj 2 (vp_updL (jj 2) ji7 xx), lt), rfl, ⟨by rw [setZ, if_pos hE, vN_n (j := 2) (by omega), vN_n (j := ji7) (by omega)]; exact RepX.zn hRX (ShX_set hRX.2.2.2.2.2.2.2.2), by rw [getA, if_pos hE, vN_n (j := 2) (by omega), vN_n (j := ji7) (by omega)]; exact hzv ji7 (by omega)⟩, show PP G (xw G h x wn wa w0 w1 rd wr z (va_up jj 2 (vp_updL (jj 2) ji7 xx)) lt) t.heap by rw [ht]; exact hP⟩, hS.F ht⟩) hS.2.2 dX4_set_48
    · skip
      refine lv_aload_n hx hb dX4_set_21 rfl (lv_at hl 1 rfl) ?_
      refine va_get (D := gD G) (ci := 4) (v := .ref (h 70)) (C := RX4) (T := TX4) (N := 9) hx hb hts hiX4 hown hK hP 0 (xp_0 _ _ _ _ _ _ _ _ _ _ _ _) rfl 5 (by decide) k37 (fun _ h9 => h9) rfl dX4_set_22 ?_
      refine va_getN (D := gD G) (ci := 2) (v := .ref (h 71)) (C := RX2) (T := TX2) (N := 2) hx hb hts hiX2 hown hK hP 47 (xp_47 _ _ _ _ _ _ _ _ _ _ _ _) rfl 0 (by decide) k229 (fun _ h9 => h9) rfl dX4_set_25 ?_
      refine lv_iload_n hx hb dX4_set_28 rfl (lv_at hl 2 rfl) ?_
      refine aaldJ (f := fun i => some (h (70 + (3 + i)))) (n := 4) (k := 3) (b := h 76) hx hb hK hP 48 (xp_48 _ _ _ _ _ _ _ _ _ _ _ _) rfl (by decide) rfl dX4_set_29 ?_
      refine lv_iload_n hx hb dX4_set_30 rfl (lv_at hl 3 rfl) ?_
      refine laldN (f := jj 3) (n := 40) (k := ji7) hx hb hK hP 53 (xp_53 _ _ _ _ _ _ _ _ _ _ _ _) rfl (by omega) dX4_set_31 ?_
      refine lv_lstore (lv' := [(6, .long ((jj 3) ji7)), (5, .int (0 : Int32)), (0, .ref (h 0)), (1, .int (nI 3)), (2, .int (nI ji7)), (3, .long xx)]) hx hb dX4_set_32 hl (by decide) rfl (fun ls hl => ?_)
      refine lv_aload_n hx hb dX4_set_34 rfl (lv_at hl 2 rfl) ?_
      refine va_get (D := gD G) (ci := 4) (v := .ref (h 70)) (C := RX4) (T := TX4) (N := 9) hx hb hts hiX4 hown hK hP 0 (xp_0 _ _ _ _ _ _ _ _ _ _ _ _) rfl 5 (by decide) k37 (fun _ h9 => h9) rfl dX4_set_35 ?_
      refine va_getN (D := gD G) (ci := 2) (v := .ref (h 71)) (C := RX2) (T := TX2) (N := 2) hx hb hts hiX2 hown hK hP 47 (xp_47 _ _ _ _ _ _ _ _ _ _ _ _) rfl 0 (by decide) k229 (fun _ h9 => h9) rfl dX4_set_38 ?_
      refine lv_iload_n hx hb dX4_set_41 rfl (lv_at hl 3 rfl) ?_
      refine aaldJ (f := fun i => some (h (70 + (3 + i)))) (n := 4) (k := 3) (b := h 76) hx hb hK hP 48 (xp_48 _ _ _ _ _ _ _ _ _ _ _ _) rfl (by decide) rfl dX4_set_42 ?_
      refine lv_iload_n hx hb dX4_set_43 rfl (lv_at hl 4 rfl) ?_
      refine lv_lload_n hx hb dX4_set_44 rfl (lv_at hl 5 rfl) ?_
      refine lastN (f := jj 3) (n := 40) (k := ji7) hx hb hK hP hD hS 53 (xp_53 _ _ _ _ _ _ _ _ _ _ _ _) rfl (by omega) dX4_set_45 (fun H locs hP hD hS => ?_)
      rw [xs_53] at hP hD
      have hP : PP G (xw G h x wn wa w0 w1 rd wr z (va_up jj 3 (vp_updL (jj 3) ji7 xx)) lt) H := hP
      have hD : va_D A (xw G h x wn wa w0 w1 rd wr z (va_up jj 3 (vp_updL (jj 3) ji7 xx)) lt) := hD
      refine lv_lload hx hb dX4_set_46 (lv_at hl 0 rfl) ?_
      exact W.lret (v := (jj 3) ji7) hx hb hr (fun t ht hW => ⟨⟨(jj 3) ji7, (x, wn, wa, w0, w1, rd, wr, z, va_up jj 3 (vp_updL (jj 3) ji7 xx), lt), rfl, ⟨by rw [setZ, if_pos hE, vN_n (j := 3) (by omega), vN_n (j := ji7) (by omega)]; exact RepX.zn hRX (ShX_set hRX.2.2.2.2.2.2.2.2), by rw [getA, if_pos hE, vN_n (j := 3) (by omega), vN_n (j := ji7) (by omega)]; exact hzv ji7 (by omega)⟩, show PP G (xw G h x wn wa w0 w1 rd wr z (va_up jj 3 (vp_updL (jj 3) ji7 xx)) lt) t.heap by rw [ht]; exact hP⟩, hS.F ht⟩) hS.2.2 dX4_set_48
  · skip
    have hE : refS sg s1 i1 (1) = aUNK := ref_unk hnu7
    refine lv_istore (lv' := [(5, .int (-1000000001 : Int32)), (0, .ref (h 0)), (1, .int s1), (2, .int i1), (3, .long xx)]) hx hb dX4_set_10 hl (by decide) rfl (fun ls hl => ?_)
    refine lv_iload hx hb dX4_set_12 (lv_at hl 0 rfl) ?_
    refine lv_if_eq (tgt := 21) hx hb dX4_set_14 (by decide) (fun c9 => absurd c9 (by decide)) (fun _ => ?_)
    refine lv_iload hx hb dX4_set_17 (lv_at hl 0 rfl) ?_
    refine lv_i2l (v := (-1000000001 : Int32).toInt64) hx hb dX4_set_19 rfl ?_
    exact W.lret (v := (-1000000001 : Int32).toInt64) hx hb hr (fun t ht hW => ⟨⟨(-1000000001 : Int32).toInt64, (x, wn, wa, w0, w1, rd, wr, z, jj, lt), rfl, ⟨by rw [setZ, if_neg (show ¬ refS sg s1 i1 (1) = 0 from by rw [hE]; decide)]; exact hRX, by rw [getA, if_neg (show ¬ refS sg s1 i1 (1) = 0 from by rw [hE]; decide), hE]⟩, show PP G (xw G h x wn wa w0 w1 rd wr z jj lt) t.heap by rw [ht]; exact hP⟩, hS.F ht⟩) hS.2.2 dX4_set_20
  · skip
    have hE : refS sg s1 i1 (1) = aNULL := by rw [ejs7]; exact ref_nul hjs7 (ShX.no hRX.2.2.2.2.2.2.2.2 hIS hjs7 eq7)
    refine lv_istore (lv' := [(5, .int (-1000000011 : Int32)), (0, .ref (h 0)), (1, .int s1), (2, .int i1), (3, .long xx)]) hx hb dX4_set_10 hl (by decide) rfl (fun ls hl => ?_)
    refine lv_iload hx hb dX4_set_12 (lv_at hl 0 rfl) ?_
    refine lv_if_eq (tgt := 21) hx hb dX4_set_14 (by decide) (fun c9 => absurd c9 (by decide)) (fun _ => ?_)
    refine lv_iload hx hb dX4_set_17 (lv_at hl 0 rfl) ?_
    refine lv_i2l (v := (-1000000011 : Int32).toInt64) hx hb dX4_set_19 rfl ?_
    exact W.lret (v := (-1000000011 : Int32).toInt64) hx hb hr (fun t ht hW => ⟨⟨(-1000000011 : Int32).toInt64, (x, wn, wa, w0, w1, rd, wr, z, jj, lt), rfl, ⟨by rw [setZ, if_neg (show ¬ refS sg s1 i1 (1) = 0 from by rw [hE]; decide)]; exact hRX, by rw [getA, if_neg (show ¬ refS sg s1 i1 (1) = 0 from by rw [hE]; decide), hE]⟩, show PP G (xw G h x wn wa w0 w1 rd wr z jj lt) t.heap by rw [ht]; exact hP⟩, hS.F ht⟩) hS.2.2 dX4_set_20
  · skip
    have hE : refS sg s1 i1 (1) = aPLC := by rw [ejs7]; exact ref_plc hjs7 (ShX.sz hRX.2.2.2.2.2.2.2.2 hIS hjs7 hq7 eq7).1 (fun ⟨ji, e1, e2⟩ => hpl7 ⟨ji, 1, e1, rfl, e2⟩)
    refine lv_istore (lv' := [(5, .int (-1000000012 : Int32)), (0, .ref (h 0)), (1, .int s1), (2, .int i1), (3, .long xx)]) hx hb dX4_set_10 hl (by decide) rfl (fun ls hl => ?_)
    refine lv_iload hx hb dX4_set_12 (lv_at hl 0 rfl) ?_
    refine lv_if_eq (tgt := 21) hx hb dX4_set_14 (by decide) (fun c9 => absurd c9 (by decide)) (fun _ => ?_)
    refine lv_iload hx hb dX4_set_17 (lv_at hl 0 rfl) ?_
    refine lv_i2l (v := (-1000000012 : Int32).toInt64) hx hb dX4_set_19 rfl ?_
    exact W.lret (v := (-1000000012 : Int32).toInt64) hx hb hr (fun t ht hW => ⟨⟨(-1000000012 : Int32).toInt64, (x, wn, wa, w0, w1, rd, wr, z, jj, lt), rfl, ⟨by rw [setZ, if_neg (show ¬ refS sg s1 i1 (1) = 0 from by rw [hE]; decide)]; exact hRX, by rw [getA, if_neg (show ¬ refS sg s1 i1 (1) = 0 from by rw [hE]; decide), hE]⟩, show PP G (xw G h x wn wa w0 w1 rd wr z jj lt) t.heap by rw [ht]; exact hP⟩, hS.F ht⟩) hS.2.2 dX4_set_20
set_option maxHeartbeats 1000000 in
set_option maxRecDepth 100000 in
theorem mt_X4_getS (l : Launch) (G : gG) (h : Nat → Nat) (x : oS) (wn : oS) (wa : oS) (w0 : oS) (w1 : oS) (rd : oS) (wr : oS) (z : oS) (jj : Nat → Nat → Int64) (lt : Int64) (sg : pS) (zz : Nat → Nat → Int64) (s1 : Int32) (i1 : Int32) (hIS : IS sg) (hRX : RepX x wn wa w0 w1 rd z jj sg zz) : Met l yX4_get wsX4_get ({ frames := 2, cells := 0, slots := 0, locals := 44 }) (preR G (xw G h x wn wa w0 w1 rd wr z jj lt) [.ref (h 0), .int s1, .int i1]) (vp_Sl (fun r : Int64 => r = getA sg zz s1 i1)) 0 0 (fun _ => False) := by
  refine Met.ofW (cc := cX4_get) (maxL := 4) (ret := (some .long)) (by decide) rfl ?_
  intro p e s m args below meth c s₁ B hml hv
  obtain ⟨ha, hP, hK, hN⟩ := hv
  subst ha
  have hx := B.exec
  have hb := B.bytes
  have hr := B.returns
  have hts := atoms_spec (ws := wsX4_get) B.pre
  have hown : s.vm.findClass RX4 = some m.cls := findClass_of_methodNamed B.named
  have hlocks := B.notSynchronized
  have hiX4 : ∀ w ∈ wsX40, w ∈ wsX4_get := fun w h9 => List.mem_cons_of_mem _ (List.mem_append_left _ (List.mem_append_right _ (h9)))
  have k37 := hts (.fieldLink RX4 37 "WovenHistory" "sheets" "LWovenHistory$Sheets;") (List.mem_of_getElem? (i := 1) rfl)
  have hiX2 : ∀ w ∈ wsX20, w ∈ wsX4_get := fun w h9 => List.mem_cons_of_mem _ (List.mem_append_right _ (h9))
  have k229 : (Cond.fieldLinkNest "WovenHistory" 229 "WovenHistory$Sheets" "numbers" "[[J" "WovenHistory").before _ s = true := va_Nw.use (A := ([.ref (h 0), .int s1, .int i1] : List Value).toArray) rfl (hN.1 ("WovenHistory", 229, "WovenHistory$Sheets", "numbers", "[[J") (List.mem_of_getElem? (i := 7) rfl))
  have hl := lv_entry ([.ref (h 0), .int s1, .int i1]) (n := 4) (Nat.le_of_ble_eq_true rfl)
  rw [lg_entry_eq]
  generalize (lg_sl ([.ref (h 0), .int s1, .int i1]) ++ List.replicate (4 - (lg_sl ([.ref (h 0), .int s1, .int i1])).length) Slot.unset).toArray = ls at hl ⊢
  have hl : lv_has ls 4 [(0, .ref (h 0)), (1, .int s1), (2, .int i1)] := hl
  have hC := hRX.1
  have hic := hIS.ic
  have hv24 := hIS.1
  have hl120 := hIS.2.1
  have ho1 := hIS.2.2.1
  refine lv_aload_n hx hb dX4_get_0 rfl (lv_at hl 0 rfl) ?_
  refine va_get (D := gD G) (ci := 4) (v := .ref (h 70)) (C := RX4) (T := TX4) (N := 9) hx hb hts hiX4 hown hK hP 0 (xp_0 _ _ _ _ _ _ _ _ _ _ _ _) rfl 5 (by decide) k37 (fun _ h9 => h9) rfl dX4_get_1 ?_
  refine lv_iload_n hx hb dX4_get_4 rfl (lv_at hl 1 rfl) ?_
  refine lv_iload_n hx hb dX4_get_5 rfl (lv_at hl 2 rfl) ?_
  refine lv_iconst (v := nI 1) hx hb dX4_get_6 (by decide) ?_
  refine cRi (w := sv G (fun k => h (70 + k)) z jj) (As := [.int s1, .int i1, .int (nI 1)]) (rest := []) ⟨hx, hb, hml, hown, hts⟩ (mt_X2_findWrong l G (fun k => h (70 + k)) z jj s1 i1 (nI 1) ((ShX.s4 hRX.2.2.2.2.2.2.2.2 hIS))) (cwV 3 hts gX4_get_X2_findWrong rfl rfl rfl ⟨rfl, hd_X2_findWrong⟩ ⟨Nat.le_of_ble_eq_true rfl, Nat.le_of_ble_eq_true rfl⟩) hK hN (hP.sub [47, 48, 49, 50, 51, 52, 53] (xf_z _ _ _ _ _ _ _ _ _ _ _ _)) 0 2 rfl rfl rfl hl.1 rfl (Nat.le_of_ble_eq_true rfl) ⟨Nat.zero_le _, Nat.zero_le _⟩ dX4_get_7 (fun r7 hw7 => ?_)
  rcases hw7 with ⟨rfl, js7, ji7, nn7, q7, hjs7, rfl, hq7, eq7, rfl, enn7, hs7⟩ | ⟨rfl, hnu7⟩ | ⟨rfl, js7, hjs7, ejs7, eq7⟩ | ⟨rfl, js7, q7, hjs7, ejs7, hq7, eq7, hpl7⟩
  · skip
    obtain ⟨hzs, hzv⟩ := ShX.sz hRX.2.2.2.2.2.2.2.2 hIS hjs7 hq7 eq7
    have hnn : 1 = nn7 := (nI_eq (a := 1) (b := nn7) (by omega) (by omega)).mp enn7
    have hE : refS sg (nI js7) (nI ji7) (1) = 0 := ref_ok hjs7 hzs hq7 (by omega)
    refine lv_istore_n (lv' := [(3, .int (0 : Int32)), (0, .ref (h 0)), (1, .int (nI js7)), (2, .int (nI ji7))]) hx hb dX4_get_10 rfl hl (by decide) rfl (fun ls hl => ?_)
    refine lv_iload_n hx hb dX4_get_11 rfl (lv_at hl 0 rfl) ?_
    refine lv_if_eq (tgt := 20) hx hb dX4_get_12 (by decide) (fun _ => ?_) (fun c9 => absurd (by decide) c9)
    rcases (show js7 = 0 ∨ js7 = 1 ∨ js7 = 2 ∨ js7 = 3 by omega) with rfl | rfl | rfl | rfl
    · skip
      refine lv_aload_n hx hb dX4_get_20 rfl (lv_at hl 1 rfl) ?_
      refine va_get (D := gD G) (ci := 4) (v := .ref (h 70)) (C := RX4) (T := TX4) (N := 9) hx hb hts hiX4 hown hK hP 0 (xp_0 _ _ _ _ _ _ _ _ _ _ _ _) rfl 5 (by decide) k37 (fun _ h9 => h9) rfl dX4_get_21 ?_
      refine va_getN (D := gD G) (ci := 2) (v := .ref (h 71)) (C := RX2) (T := TX2) (N := 2) hx hb hts hiX2 hown hK hP 47 (xp_47 _ _ _ _ _ _ _ _ _ _ _ _) rfl 0 (by decide) k229 (fun _ h9 => h9) rfl dX4_get_24 ?_
      refine lv_iload_n hx hb dX4_get_27 rfl (lv_at hl 2 rfl) ?_
      refine aaldJ (f := fun i => some (h (70 + (3 + i)))) (n := 4) (k := 0) (b := h 73) hx hb hK hP 48 (xp_48 _ _ _ _ _ _ _ _ _ _ _ _) rfl (by decide) rfl dX4_get_28 ?_
      refine lv_iload_n hx hb dX4_get_29 rfl (lv_at hl 3 rfl) ?_
      refine laldN (f := jj 0) (n := 40) (k := ji7) hx hb hK hP 50 (xp_50 _ _ _ _ _ _ _ _ _ _ _ _) rfl (by omega) dX4_get_30 ?_
      exact W.lret (v := (jj 0) ji7) hx hb hr (fun t ht hW => ⟨(jj 0) ji7, rfl, by rw [getA, if_pos hE, vN_n (j := 0) (by omega), vN_n (j := ji7) (by omega)]; exact hzv ji7 (by omega), ht⟩) (fun _ h9 => by cases h9) dX4_get_31
    · skip
      refine lv_aload_n hx hb dX4_get_20 rfl (lv_at hl 1 rfl) ?_
      refine va_get (D := gD G) (ci := 4) (v := .ref (h 70)) (C := RX4) (T := TX4) (N := 9) hx hb hts hiX4 hown hK hP 0 (xp_0 _ _ _ _ _ _ _ _ _ _ _ _) rfl 5 (by decide) k37 (fun _ h9 => h9) rfl dX4_get_21 ?_
      refine va_getN (D := gD G) (ci := 2) (v := .ref (h 71)) (C := RX2) (T := TX2) (N := 2) hx hb hts hiX2 hown hK hP 47 (xp_47 _ _ _ _ _ _ _ _ _ _ _ _) rfl 0 (by decide) k229 (fun _ h9 => h9) rfl dX4_get_24 ?_
      refine lv_iload_n hx hb dX4_get_27 rfl (lv_at hl 2 rfl) ?_
      refine aaldJ (f := fun i => some (h (70 + (3 + i)))) (n := 4) (k := 1) (b := h 74) hx hb hK hP 48 (xp_48 _ _ _ _ _ _ _ _ _ _ _ _) rfl (by decide) rfl dX4_get_28 ?_
      refine lv_iload_n hx hb dX4_get_29 rfl (lv_at hl 3 rfl) ?_
      refine laldN (f := jj 1) (n := 40) (k := ji7) hx hb hK hP 51 (xp_51 _ _ _ _ _ _ _ _ _ _ _ _) rfl (by omega) dX4_get_30 ?_
      exact W.lret (v := (jj 1) ji7) hx hb hr (fun t ht hW => ⟨(jj 1) ji7, rfl, by rw [getA, if_pos hE, vN_n (j := 1) (by omega), vN_n (j := ji7) (by omega)]; exact hzv ji7 (by omega), ht⟩) (fun _ h9 => by cases h9) dX4_get_31
    · skip
      refine lv_aload_n hx hb dX4_get_20 rfl (lv_at hl 1 rfl) ?_
      refine va_get (D := gD G) (ci := 4) (v := .ref (h 70)) (C := RX4) (T := TX4) (N := 9) hx hb hts hiX4 hown hK hP 0 (xp_0 _ _ _ _ _ _ _ _ _ _ _ _) rfl 5 (by decide) k37 (fun _ h9 => h9) rfl dX4_get_21 ?_
      refine va_getN (D := gD G) (ci := 2) (v := .ref (h 71)) (C := RX2) (T := TX2) (N := 2) hx hb hts hiX2 hown hK hP 47 (xp_47 _ _ _ _ _ _ _ _ _ _ _ _) rfl 0 (by decide) k229 (fun _ h9 => h9) rfl dX4_get_24 ?_
      refine lv_iload_n hx hb dX4_get_27 rfl (lv_at hl 2 rfl) ?_
      refine aaldJ (f := fun i => some (h (70 + (3 + i)))) (n := 4) (k := 2) (b := h 75) hx hb hK hP 48 (xp_48 _ _ _ _ _ _ _ _ _ _ _ _) rfl (by decide) rfl dX4_get_28 ?_
      refine lv_iload_n hx hb dX4_get_29 rfl (lv_at hl 3 rfl) ?_
      refine laldN (f := jj 2) (n := 40) (k := ji7) hx hb hK hP 52 (xp_52 _ _ _ _ _ _ _ _ _ _ _ _) rfl (by omega) dX4_get_30 ?_
      exact W.lret (v := (jj 2) ji7) hx hb hr (fun t ht hW => ⟨(jj 2) ji7, rfl, by rw [getA, if_pos hE, vN_n (j := 2) (by omega), vN_n (j := ji7) (by omega)]; exact hzv ji7 (by omega), ht⟩) (fun _ h9 => by cases h9) dX4_get_31
    · skip
      refine lv_aload_n hx hb dX4_get_20 rfl (lv_at hl 1 rfl) ?_
      refine va_get (D := gD G) (ci := 4) (v := .ref (h 70)) (C := RX4) (T := TX4) (N := 9) hx hb hts hiX4 hown hK hP 0 (xp_0 _ _ _ _ _ _ _ _ _ _ _ _) rfl 5 (by decide) k37 (fun _ h9 => h9) rfl dX4_get_21 ?_
      refine va_getN (D := gD G) (ci := 2) (v := .ref (h 71)) (C := RX2) (T := TX2) (N := 2) hx hb hts hiX2 hown hK hP 47 (xp_47 _ _ _ _ _ _ _ _ _ _ _ _) rfl 0 (by decide) k229 (fun _ h9 => h9) rfl dX4_get_24 ?_
      refine lv_iload_n hx hb dX4_get_27 rfl (lv_at hl 2 rfl) ?_
      refine aaldJ (f := fun i => some (h (70 + (3 + i)))) (n := 4) (k := 3) (b := h 76) hx hb hK hP 48 (xp_48 _ _ _ _ _ _ _ _ _ _ _ _) rfl (by decide) rfl dX4_get_28 ?_
      refine lv_iload_n hx hb dX4_get_29 rfl (lv_at hl 3 rfl) ?_
      refine laldN (f := jj 3) (n := 40) (k := ji7) hx hb hK hP 53 (xp_53 _ _ _ _ _ _ _ _ _ _ _ _) rfl (by omega) dX4_get_30 ?_
      exact W.lret (v := (jj 3) ji7) hx hb hr (fun t ht hW => ⟨(jj 3) ji7, rfl, by rw [getA, if_pos hE, vN_n (j := 3) (by omega), vN_n (j := ji7) (by omega)]; exact hzv ji7 (by omega), ht⟩) (fun _ h9 => by cases h9) dX4_get_31
  · skip
    have hE : refS sg s1 i1 (1) = aUNK := ref_unk hnu7
    refine lv_istore_n (lv' := [(3, .int (-1000000001 : Int32)), (0, .ref (h 0)), (1, .int s1), (2, .int i1)]) hx hb dX4_get_10 rfl hl (by decide) rfl (fun ls hl => ?_)
    refine lv_iload_n hx hb dX4_get_11 rfl (lv_at hl 0 rfl) ?_
    refine lv_if_eq (tgt := 20) hx hb dX4_get_12 (by decide) (fun c9 => absurd c9 (by decide)) (fun _ => ?_)
    refine lv_iload_n hx hb dX4_get_15 rfl (lv_at hl 0 rfl) ?_
    refine lv_i2l (v := (-1000000001 : Int32).toInt64) hx hb dX4_get_16 rfl ?_
    refine lv_goto (tgt := 31) hx hb dX4_get_17 (by decide) ?_
    exact W.lret (v := (-1000000001 : Int32).toInt64) hx hb hr (fun t ht hW => ⟨(-1000000001 : Int32).toInt64, rfl, by rw [getA, if_neg (show ¬ refS sg s1 i1 (1) = 0 from by rw [hE]; decide), hE], ht⟩) (fun _ h9 => by cases h9) dX4_get_31
  · skip
    have hE : refS sg s1 i1 (1) = aNULL := by rw [ejs7]; exact ref_nul hjs7 (ShX.no hRX.2.2.2.2.2.2.2.2 hIS hjs7 eq7)
    refine lv_istore_n (lv' := [(3, .int (-1000000011 : Int32)), (0, .ref (h 0)), (1, .int s1), (2, .int i1)]) hx hb dX4_get_10 rfl hl (by decide) rfl (fun ls hl => ?_)
    refine lv_iload_n hx hb dX4_get_11 rfl (lv_at hl 0 rfl) ?_
    refine lv_if_eq (tgt := 20) hx hb dX4_get_12 (by decide) (fun c9 => absurd c9 (by decide)) (fun _ => ?_)
    refine lv_iload_n hx hb dX4_get_15 rfl (lv_at hl 0 rfl) ?_
    refine lv_i2l (v := (-1000000011 : Int32).toInt64) hx hb dX4_get_16 rfl ?_
    refine lv_goto (tgt := 31) hx hb dX4_get_17 (by decide) ?_
    exact W.lret (v := (-1000000011 : Int32).toInt64) hx hb hr (fun t ht hW => ⟨(-1000000011 : Int32).toInt64, rfl, by rw [getA, if_neg (show ¬ refS sg s1 i1 (1) = 0 from by rw [hE]; decide), hE], ht⟩) (fun _ h9 => by cases h9) dX4_get_31
  · skip
    have hE : refS sg s1 i1 (1) = aPLC := by rw [ejs7]; exact ref_plc hjs7 (ShX.sz hRX.2.2.2.2.2.2.2.2 hIS hjs7 hq7 eq7).1 (fun ⟨ji, e1, e2⟩ => hpl7 ⟨ji, 1, e1, rfl, e2⟩)
    refine lv_istore_n (lv' := [(3, .int (-1000000012 : Int32)), (0, .ref (h 0)), (1, .int s1), (2, .int i1)]) hx hb dX4_get_10 rfl hl (by decide) rfl (fun ls hl => ?_)
    refine lv_iload_n hx hb dX4_get_11 rfl (lv_at hl 0 rfl) ?_
    refine lv_if_eq (tgt := 20) hx hb dX4_get_12 (by decide) (fun c9 => absurd c9 (by decide)) (fun _ => ?_)
    refine lv_iload_n hx hb dX4_get_15 rfl (lv_at hl 0 rfl) ?_
    refine lv_i2l (v := (-1000000012 : Int32).toInt64) hx hb dX4_get_16 rfl ?_
    refine lv_goto (tgt := 31) hx hb dX4_get_17 (by decide) ?_
    exact W.lret (v := (-1000000012 : Int32).toInt64) hx hb hr (fun t ht hW => ⟨(-1000000012 : Int32).toInt64, rfl, by rw [getA, if_neg (show ¬ refS sg s1 i1 (1) = 0 from by rw [hE]; decide), hE], ht⟩) (fun _ h9 => by cases h9) dX4_get_31
set_option maxHeartbeats 1000000 in
set_option maxRecDepth 100000 in
theorem mt_X4_dropS (l : Launch) (G : gG) (h : Nat → Nat) (sz : Nat) (x : oS) (wn : oS) (wa : oS) (w0 : oS) (w1 : oS) (rd : oS) (wr : oS) (z : oS) (jj : Nat → Nat → Int64) (lt : Int64) (sg : pS) (zz : Nat → Nat → Int64) (s1 : Int32) (hIS : IS sg) (hRX : RepX x wn wa w0 w1 rd z jj sg zz) : Met l yX4_drop wsX4_drop ({ frames := 2, cells := 0, slots := 0, locals := 44 }) (preW G (xw G h x wn wa w0 w1 rd wr z jj lt) sz [.ref (h 0), .int s1]) (va_Qi (fun (r : Int32) (v : oS × oS × oS × oS × oS × oS × oS × oS × (Nat → Nat → Int64) × Int64) => RpX v (droF sg s1) (zz) ∧ r = droA sg s1) (fun v t => PP G (xw G h v.1 v.2.1 v.2.2.1 v.2.2.2.1 v.2.2.2.2.1 v.2.2.2.2.2.1 v.2.2.2.2.2.2.1 v.2.2.2.2.2.2.2.1 v.2.2.2.2.2.2.2.2.1 v.2.2.2.2.2.2.2.2.2) t.heap) (va_A (xw G h x wn wa w0 w1 rd wr z jj lt) sz)) 0 0 (va_A (xw G h x wn wa w0 w1 rd wr z jj lt) sz) := by
  refine Met.ofW (cc := cX4_drop) (maxL := 4) (ret := (some .int)) (by decide) rfl ?_
  intro p e s m args below meth c s₁ B hml hv
  obtain ⟨ha, hsz, hP, hK, hN, hD0⟩ := hv
  subst ha
  have hx := B.exec
  have hb := B.bytes
  have hr := B.returns
  have hts := atoms_spec (ws := wsX4_drop) B.pre
  have hown : s.vm.findClass RX4 = some m.cls := findClass_of_methodNamed B.named
  have hlocks := B.notSynchronized
  subst hsz
  have hD := hD0.self (sz := s.heap.size)
  generalize hAe : va_A (xw G h x wn wa w0 w1 rd wr z jj lt) s.heap.size = A at hD ⊢
  have hA : ∀ q : Nat, s.heap.size ≤ q → A q := fun q h => by rw [← hAe]; exact Or.inr h
  clear hAe hD0
  have hS : va_S A s.heap s.heap [] := va_S.rf
  have hiX4 : ∀ w ∈ wsX40, w ∈ wsX4_drop := fun w h9 => List.mem_cons_of_mem _ (List.mem_append_left _ (List.mem_append_right _ (h9)))
  have k37 := hts (.fieldLink RX4 37 "WovenHistory" "sheets" "LWovenHistory$Sheets;") (List.mem_of_getElem? (i := 1) rfl)
  have hiX2 : ∀ w ∈ wsX20, w ∈ wsX4_drop := fun w h9 => List.mem_cons_of_mem _ (List.mem_append_right _ (h9))
  have k233 : (Cond.fieldLinkNest "WovenHistory" 233 "WovenHistory$Sheets" "sizes" "[I" "WovenHistory").before _ s = true := va_Nw.use (A := ([.ref (h 0), .int s1] : List Value).toArray) rfl (hN.1 ("WovenHistory", 233, "WovenHistory$Sheets", "sizes", "[I") (List.mem_of_getElem? (i := 8) rfl))
  have hl := lv_entry ([.ref (h 0), .int s1]) (n := 4) (Nat.le_of_ble_eq_true rfl)
  rw [lg_entry_eq]
  generalize (lg_sl ([.ref (h 0), .int s1]) ++ List.replicate (4 - (lg_sl ([.ref (h 0), .int s1])).length) Slot.unset).toArray = ls at hl ⊢
  have hl : lv_has ls 4 [(0, .ref (h 0)), (1, .int s1)] := hl
  have hC := hRX.1
  have hic := hIS.ic
  have hv24 := hIS.1
  have hl120 := hIS.2.1
  have ho1 := hIS.2.2.1
  refine lv_aload_n hx hb dX4_drop_0 rfl (lv_at hl 0 rfl) ?_
  refine va_get (D := gD G) (ci := 4) (v := .ref (h 70)) (C := RX4) (T := TX4) (N := 9) hx hb hts hiX4 hown hK hP 0 (xp_0 _ _ _ _ _ _ _ _ _ _ _ _) rfl 5 (by decide) k37 (fun _ h9 => h9) rfl dX4_drop_1 ?_
  refine lv_iload_n hx hb dX4_drop_4 rfl (lv_at hl 1 rfl) ?_
  refine lv_iconst (v := nI 0) hx hb dX4_drop_5 (by decide) ?_
  refine lv_iconst (v := nI 0) hx hb dX4_drop_6 (by decide) ?_
  refine cRi (w := sv G (fun k => h (70 + k)) z jj) (As := [.int s1, .int (nI 0), .int (nI 0)]) (rest := []) ⟨hx, hb, hml, hown, hts⟩ (mt_X2_findWrong l G (fun k => h (70 + k)) z jj s1 (nI 0) (nI 0) ((ShX.s4 hRX.2.2.2.2.2.2.2.2 hIS))) (cwV 3 hts gX4_drop_X2_findWrong rfl rfl rfl ⟨rfl, hd_X2_findWrong⟩ ⟨Nat.le_of_ble_eq_true rfl, Nat.le_of_ble_eq_true rfl⟩) hK hN (hP.sub [47, 48, 49, 50, 51, 52, 53] (xf_z _ _ _ _ _ _ _ _ _ _ _ _)) 0 2 rfl rfl rfl hl.1 rfl (Nat.le_of_ble_eq_true rfl) ⟨Nat.zero_le _, Nat.zero_le _⟩ dX4_drop_7 (fun r7 hw7 => ?_)
  rcases hw7 with ⟨rfl, js7, ji7, nn7, q7, hjs7, rfl, hq7, eq7, eji7, enn7, hs7⟩ | ⟨rfl, hnu7⟩ | ⟨rfl, js7, hjs7, rfl, eq7⟩ | ⟨rfl, js7, q7, hjs7, ejs7, hq7, eq7, hpl7⟩
  · skip
    have hzs := (ShX.sz hRX.2.2.2.2.2.2.2.2 hIS hjs7 hq7 eq7).1
    have hne : ¬ sg.1 (50 + js7) = 0 := by omega
    refine lv_istore_n (lv' := [(2, .int (0 : Int32)), (0, .ref (h 0)), (1, .int (nI js7))]) hx hb dX4_drop_10 rfl hl (by decide) rfl (fun ls hl => ?_)
    refine lv_iload_n hx hb dX4_drop_11 rfl (lv_at hl 0 rfl) ?_
    refine lv_if_eq (tgt := 17) hx hb dX4_drop_12 (by decide) (fun _ => ?_) (fun c9 => absurd (by decide) c9)
    refine lv_aload_n hx hb dX4_drop_17 rfl (lv_at hl 1 rfl) ?_
    refine va_get (D := gD G) (ci := 4) (v := .ref (h 70)) (C := RX4) (T := TX4) (N := 9) hx hb hts hiX4 hown hK hP 0 (xp_0 _ _ _ _ _ _ _ _ _ _ _ _) rfl 5 (by decide) k37 (fun _ h9 => h9) rfl dX4_drop_18 ?_
    refine va_getN (D := gD G) (ci := 2) (v := .ref (h 72)) (C := RX2) (T := TX2) (N := 2) hx hb hts hiX2 hown hK hP 47 (xp_47 _ _ _ _ _ _ _ _ _ _ _ _) rfl 1 (by decide) k233 (fun _ h9 => h9) rfl dX4_drop_21 ?_
    refine lv_iload_n hx hb dX4_drop_24 rfl (lv_at hl 2 rfl) ?_
    refine ialdN (f := z.2 1) (n := 4) (k := js7) hx hb hK hP 49 (xp_49 _ _ _ _ _ _ _ _ _ _ _ _) rfl (by omega) dX4_drop_25 ?_
    refine lv_istore_n (lv' := [(3, .int ((z.2 1) js7)), (2, .int (0 : Int32)), (0, .ref (h 0)), (1, .int (nI js7))]) hx hb dX4_drop_26 rfl hl (by decide) rfl (fun ls hl => ?_)
    refine lv_aload_n hx hb dX4_drop_27 rfl (lv_at hl 2 rfl) ?_
    refine va_get (D := gD G) (ci := 4) (v := .ref (h 70)) (C := RX4) (T := TX4) (N := 9) hx hb hts hiX4 hown hK hP 0 (xp_0 _ _ _ _ _ _ _ _ _ _ _ _) rfl 5 (by decide) k37 (fun _ h9 => h9) rfl dX4_drop_28 ?_
    refine va_getN (D := gD G) (ci := 2) (v := .ref (h 72)) (C := RX2) (T := TX2) (N := 2) hx hb hts hiX2 hown hK hP 47 (xp_47 _ _ _ _ _ _ _ _ _ _ _ _) rfl 1 (by decide) k233 (fun _ h9 => h9) rfl dX4_drop_31 ?_
    refine lv_iload_n hx hb dX4_drop_34 rfl (lv_at hl 3 rfl) ?_
    refine lv_iconst (v := (-1 : Int32)) hx hb dX4_drop_35 (by decide) ?_
    refine iastN (f := z.2 1) (n := 4) (k := js7) hx hb hK hP hD hS 49 (xp_49 _ _ _ _ _ _ _ _ _ _ _ _) rfl (by omega) dX4_drop_36 (fun H locs hP hD hS => ?_)
    rw [xs_49] at hP hD
    have hP : PP G (xw G h x wn wa w0 w1 rd wr (oA z 1 (upd (z.2 1) js7 (-1 : Int32))) jj lt) H := hP
    have hD : va_D A (xw G h x wn wa w0 w1 rd wr (oA z 1 (upd (z.2 1) js7 (-1 : Int32))) jj lt) := hD
    refine lv_iload_n hx hb dX4_drop_37 rfl (lv_at hl 0 rfl) ?_
    exact W.iret (v := (z.2 1) js7) hx hb hr (fun t ht hW => ⟨⟨(z.2 1) js7, (x, wn, wa, w0, w1, rd, wr, oA z 1 (upd (z.2 1) js7 (-1 : Int32)), jj, lt), rfl, ⟨by rw [droF, if_neg (not_not_intro (inR_t hjs7 (by omega))), vN_n (j := js7) (by omega), if_neg hne]; exact RepX.sh hRX (ShX_dro hRX.2.2.2.2.2.2.2.2 hjs7) hjs7, by rw [droA, if_neg (not_not_intro (inR_t hjs7 (by omega))), vN_n (j := js7) (by omega), if_neg hne]; exact eq7.trans (congrArg nI (by omega))⟩, show PP G (xw G h x wn wa w0 w1 rd wr (oA z 1 (upd (z.2 1) js7 (-1 : Int32))) jj lt) t.heap by rw [ht]; exact hP⟩, hS.F ht⟩) hS.2.2 dX4_drop_38
  · skip
    refine lv_istore_n (lv' := [(2, .int (-1000000001 : Int32)), (0, .ref (h 0)), (1, .int s1)]) hx hb dX4_drop_10 rfl hl (by decide) rfl (fun ls hl => ?_)
    refine lv_iload_n hx hb dX4_drop_11 rfl (lv_at hl 0 rfl) ?_
    refine lv_if_eq (tgt := 17) hx hb dX4_drop_12 (by decide) (fun c9 => absurd c9 (by decide)) (fun _ => ?_)
    refine lv_iload_n hx hb dX4_drop_15 rfl (lv_at hl 0 rfl) ?_
    exact W.iret (v := (-1000000001 : Int32)) hx hb hr (fun t ht hW => ⟨⟨(-1000000001 : Int32), (x, wn, wa, w0, w1, rd, wr, z, jj, lt), rfl, ⟨by rw [droF, if_pos (inR_f (by omega) hnu7)]; exact hRX, by rw [droA, if_pos (inR_f (by omega) hnu7)]⟩, show PP G (xw G h x wn wa w0 w1 rd wr z jj lt) t.heap by rw [ht]; exact hP⟩, hS.F ht⟩) hS.2.2 dX4_drop_16
  · skip
    have hzs := ShX.no hRX.2.2.2.2.2.2.2.2 hIS hjs7 eq7
    refine lv_istore_n (lv' := [(2, .int (-1000000011 : Int32)), (0, .ref (h 0)), (1, .int (nI js7))]) hx hb dX4_drop_10 rfl hl (by decide) rfl (fun ls hl => ?_)
    refine lv_iload_n hx hb dX4_drop_11 rfl (lv_at hl 0 rfl) ?_
    refine lv_if_eq (tgt := 17) hx hb dX4_drop_12 (by decide) (fun c9 => absurd c9 (by decide)) (fun _ => ?_)
    refine lv_iload_n hx hb dX4_drop_15 rfl (lv_at hl 0 rfl) ?_
    exact W.iret (v := (-1000000011 : Int32)) hx hb hr (fun t ht hW => ⟨⟨(-1000000011 : Int32), (x, wn, wa, w0, w1, rd, wr, z, jj, lt), rfl, ⟨by rw [droF, if_neg (not_not_intro (inR_t hjs7 (by omega))), vN_n (j := js7) (by omega), if_pos hzs]; exact hRX, by rw [droA, if_neg (not_not_intro (inR_t hjs7 (by omega))), vN_n (j := js7) (by omega), if_pos hzs]⟩, show PP G (xw G h x wn wa w0 w1 rd wr z jj lt) t.heap by rw [ht]; exact hP⟩, hS.F ht⟩) hS.2.2 dX4_drop_16
  · skip
    exact absurd ⟨0, 0, rfl, rfl, Nat.zero_le _⟩ hpl7
theorem picX {w : oS} {s : pS} {top : Nat} (h : CW w s top) (ht : s.1 0 ≤ top) {i : Nat} (hi : i < s.1 4) : (w.2 6 i).toInt64 + 256 * (w.2 7 i).toInt64 + 65536 * (lifF (fun v => sdb (w.2 7) (w.2 8) (w.2 4 v) i) (s.1 0)).toInt64 = picS s i := by
  unfold picS
  rw [h.2.2.2.2.2.2.1 i hi, h.2.2.2.2.2.2.2.1 i hi]
  congr 3
  exact lifF_c _ (fun v hv => by rw [h.c4 (show v < top by omega)]; exact h.sd _ i hi)

set_option maxHeartbeats 1000000 in
set_option maxRecDepth 100000 in
theorem mt_X4_filmS (l : Launch) (G : gG) (h : Nat → Nat) (sz : Nat) (x : oS) (wn : oS) (wa : oS) (w0 : oS) (w1 : oS) (rd : oS) (wr : oS) (z : oS) (jj : Nat → Nat → Int64) (lt : Int64) (sg : pS) (zz : Nat → Nat → Int64) (a : Int32) (s1 : Int32) (i1 : Int32) (hIS : IS sg) (hRX : RepX x wn wa w0 w1 rd z jj sg zz) : Met l yX4_film wsX4_film ({ frames := 3, cells := 0, slots := 0, locals := 67 }) (preW G (xw G h x wn wa w0 w1 rd wr z jj lt) sz [.ref (h 0), .int a, .int s1, .int i1]) (va_Qi (fun (r : Int32) (v : oS × oS × oS × oS × oS × oS × oS × oS × (Nat → Nat → Int64) × Int64) => RpX v (sg) (filZ sg zz a s1 i1) ∧ r = filA sg a s1 i1) (fun v t => PP G (xw G h v.1 v.2.1 v.2.2.1 v.2.2.2.1 v.2.2.2.2.1 v.2.2.2.2.2.1 v.2.2.2.2.2.2.1 v.2.2.2.2.2.2.2.1 v.2.2.2.2.2.2.2.2.1 v.2.2.2.2.2.2.2.2.2) t.heap) (va_A (xw G h x wn wa w0 w1 rd wr z jj lt) sz)) 0 0 (va_A (xw G h x wn wa w0 w1 rd wr z jj lt) sz) := by
  refine Met.ofW (cc := cX4_film) (maxL := 8) (ret := (some .int)) (by decide) rfl ?_
  intro p e s m args below meth c s₁ B hml hv
  obtain ⟨ha, hsz, hP, hK, hN, hD0⟩ := hv
  subst ha
  have hx := B.exec
  have hb := B.bytes
  have hr := B.returns
  have hts := atoms_spec (ws := wsX4_film) B.pre
  have hown : s.vm.findClass RX4 = some m.cls := findClass_of_methodNamed B.named
  have hlocks := B.notSynchronized
  subst hsz
  have hD := hD0.self (sz := s.heap.size)
  generalize hAe : va_A (xw G h x wn wa w0 w1 rd wr z jj lt) s.heap.size = A at hD ⊢
  have hA : ∀ q : Nat, s.heap.size ≤ q → A q := fun q h => by rw [← hAe]; exact Or.inr h
  clear hAe hD0
  have hS : va_S A s.heap s.heap [] := va_S.rf
  have hiX4 : ∀ w ∈ wsX40, w ∈ wsX4_film := fun w h9 => List.mem_cons_of_mem _ (List.mem_append_left _ (List.mem_append_left _ (List.mem_append_right _ (h9))))
  have k10 := hts (.fieldLink RX4 10 "WovenHistory" "now" "LWovenHistory$Weave;") (List.mem_of_getElem? (i := 1) rfl)
  have hiX3 : ∀ w ∈ wsX30, w ∈ wsX4_film := fun w h9 => List.mem_cons_of_mem _ (List.mem_append_left _ (List.mem_append_right _ (h9)))
  have k115 : (Cond.fieldLinkNest "WovenHistory" 115 "WovenHistory$Weave" "changes" "[I" "WovenHistory").before _ s = true := va_Nw.use (A := ([.ref (h 0), .int a, .int s1, .int i1] : List Value).toArray) rfl (hN.1 ("WovenHistory", 115, "WovenHistory$Weave", "changes", "[I") (List.mem_of_getElem? (i := 1) rfl))
  have k37 := hts (.fieldLink RX4 37 "WovenHistory" "sheets" "LWovenHistory$Sheets;") (List.mem_of_getElem? (i := 3) rfl)
  have k85 : (Cond.fieldLinkNest "WovenHistory" 85 "WovenHistory$Weave" "lines" "I" "WovenHistory").before _ s = true := va_Nw.use (A := ([.ref (h 0), .int a, .int s1, .int i1] : List Value).toArray) rfl (hN.1 ("WovenHistory", 85, "WovenHistory$Weave", "lines", "I") (List.mem_of_getElem? (i := 13) rfl))
  have hiX2 : ∀ w ∈ wsX20, w ∈ wsX4_film := fun w h9 => List.mem_cons_of_mem _ (List.mem_append_right _ (h9))
  have k229 : (Cond.fieldLinkNest "WovenHistory" 229 "WovenHistory$Sheets" "numbers" "[[J" "WovenHistory").before _ s = true := va_Nw.use (A := ([.ref (h 0), .int a, .int s1, .int i1] : List Value).toArray) rfl (hN.1 ("WovenHistory", 229, "WovenHistory$Sheets", "numbers", "[[J") (List.mem_of_getElem? (i := 7) rfl))
  have hl := lv_entry ([.ref (h 0), .int a, .int s1, .int i1]) (n := 8) (Nat.le_of_ble_eq_true rfl)
  rw [lg_entry_eq]
  generalize (lg_sl ([.ref (h 0), .int a, .int s1, .int i1]) ++ List.replicate (8 - (lg_sl ([.ref (h 0), .int a, .int s1, .int i1])).length) Slot.unset).toArray = ls at hl ⊢
  have hl : lv_has ls 8 [(0, .ref (h 0)), (1, .int a), (2, .int s1), (3, .int i1)] := hl
  have hC := hRX.1
  have hic := hIS.ic
  have hv24 := hIS.1
  have hl120 := hIS.2.1
  have ho1 := hIS.2.2.1
  refine lv_aload_n hx hb dX4_film_0 rfl (lv_at hl 0 rfl) ?_
  refine va_get (D := gD G) (ci := 4) (v := .ref (h 10)) (C := RX4) (T := TX4) (N := 9) hx hb hts hiX4 hown hK hP 0 (xp_0 _ _ _ _ _ _ _ _ _ _ _ _) rfl 0 (by decide) k10 (fun _ h9 => h9) rfl dX4_film_1 ?_
  refine lv_iload_n hx hb dX4_film_4 rfl (lv_at hl 1 rfl) ?_
  refine cRi (w := wv G (fun k => h (10 + k)) wn) (As := [.int a]) (rest := []) ⟨hx, hb, hml, hown, hts⟩ (mt_X3_hasVersion l G (fun k => h (10 + k)) wn (sg.1 0) a (hC.1) (by first | assumption | omega)) (cwV 1 hts gX4_film_X3_hasVersion rfl rfl rfl ⟨rfl, hd_X3_hasVersion⟩ ⟨Nat.le_of_ble_eq_true rfl, Nat.le_of_ble_eq_true rfl⟩) hK hN (hP.sub [3, 4, 5, 6, 7, 8, 9, 10] (xf_now _ _ _ _ _ _ _ _ _ _ _ _)) 0 3 rfl rfl rfl hl.1 rfl (Nat.le_of_ble_eq_true rfl) ⟨Nat.zero_le _, Nat.zero_le _⟩ dX4_film_5 (fun r5 hw5 => ?_)
  rcases hw5 with ⟨rfl, a1, ha1, rfl⟩ | ⟨rfl, hna1⟩
  · skip
    refine lv_if_ne (tgt := 14) hx hb dX4_film_8 (by decide) (fun _ => ?_) (fun c9 => absurd c9 (by decide))
    refine lv_aload_n hx hb dX4_film_14 rfl (lv_at hl 0 rfl) ?_
    refine va_get (D := gD G) (ci := 4) (v := .ref (h 10)) (C := RX4) (T := TX4) (N := 9) hx hb hts hiX4 hown hK hP 0 (xp_0 _ _ _ _ _ _ _ _ _ _ _ _) rfl 0 (by decide) k10 (fun _ h9 => h9) rfl dX4_film_15 ?_
    refine lv_aload_n hx hb dX4_film_18 rfl (lv_at hl 0 rfl) ?_
    refine va_get (D := gD G) (ci := 4) (v := .ref (h 10)) (C := RX4) (T := TX4) (N := 9) hx hb hts hiX4 hown hK hP 0 (xp_0 _ _ _ _ _ _ _ _ _ _ _ _) rfl 0 (by decide) k10 (fun _ h9 => h9) rfl dX4_film_19 ?_
    refine va_getN (D := gD G) (ci := 3) (v := .ref (h 14)) (C := RX3) (T := TX3) (N := 9) hx hb hts hiX3 hown hK hP 3 (xp_3 _ _ _ _ _ _ _ _ _ _ _ _) rfl 4 (by decide) k115 (fun _ h9 => h9) rfl dX4_film_22 ?_
    refine lv_iload_n hx hb dX4_film_25 rfl (lv_at hl 1 rfl) ?_
    refine ialdN (f := wn.2 4) (n := 24) (k := a1) hx hb hK hP 7 (xp_7 _ _ _ _ _ _ _ _ _ _ _ _) rfl (by omega) dX4_film_26 ?_
    refine cRi (w := wv G (fun k => h (10 + k)) wn) (As := [.int ((wn.2 4) a1)]) (rest := []) ⟨hx, hb, hml, hown, hts⟩ (mt_X3_countStanding l G (fun k => h (10 + k)) wn (sg.1 4) ((wn.2 4) a1) (hC.2.1) (by first | assumption | omega)) (cwV 1 hts gX4_film_X3_countStanding rfl rfl rfl ⟨rfl, hd_X3_countStanding⟩ ⟨Nat.le_of_ble_eq_true rfl, Nat.le_of_ble_eq_true rfl⟩) hK hN (hP.sub [3, 4, 5, 6, 7, 8, 9, 10] (xf_now _ _ _ _ _ _ _ _ _ _ _ _)) 0 3 rfl rfl rfl hl.1 rfl (Nat.le_of_ble_eq_true rfl) ⟨Nat.zero_le _, Nat.zero_le _⟩ dX4_film_27 (fun r27 hw27 => ?_)
    obtain rfl := hw27
    have hc27 := cnt_le (sdb (wn.2 7) (wn.2 8) ((wn.2 4) a1)) (sg.1 4)
    refine lv_istore (lv' := [(4, .int (nI (cnt (sdb (wn.2 7) (wn.2 8) ((wn.2 4) a1)) (sg.1 4)))), (0, .ref (h 0)), (1, .int (nI a1)), (2, .int s1), (3, .int i1)]) hx hb dX4_film_30 hl (by decide) rfl (fun ls hl => ?_)
    refine lv_aload_n hx hb dX4_film_32 rfl (lv_at hl 1 rfl) ?_
    refine va_get (D := gD G) (ci := 4) (v := .ref (h 70)) (C := RX4) (T := TX4) (N := 9) hx hb hts hiX4 hown hK hP 0 (xp_0 _ _ _ _ _ _ _ _ _ _ _ _) rfl 5 (by decide) k37 (fun _ h9 => h9) rfl dX4_film_33 ?_
    refine lv_iload_n hx hb dX4_film_36 rfl (lv_at hl 3 rfl) ?_
    refine lv_iload_n hx hb dX4_film_37 rfl (lv_at hl 4 rfl) ?_
    refine lv_iload hx hb dX4_film_38 (lv_at hl 0 rfl) ?_
    refine cRi (w := sv G (fun k => h (70 + k)) z jj) (As := [.int s1, .int i1, .int (nI (cnt (sdb (wn.2 7) (wn.2 8) ((wn.2 4) a1)) (sg.1 4)))]) (rest := []) ⟨hx, hb, hml, hown, hts⟩ (mt_X2_findWrong l G (fun k => h (70 + k)) z jj s1 i1 (nI (cnt (sdb (wn.2 7) (wn.2 8) ((wn.2 4) a1)) (sg.1 4))) ((ShX.s4 hRX.2.2.2.2.2.2.2.2 hIS))) (cwV 3 hts gX4_film_X2_findWrong rfl rfl rfl ⟨rfl, hd_X2_findWrong⟩ ⟨Nat.le_of_ble_eq_true rfl, Nat.le_of_ble_eq_true rfl⟩) hK hN (hP.sub [47, 48, 49, 50, 51, 52, 53] (xf_z _ _ _ _ _ _ _ _ _ _ _ _)) 0 2 rfl rfl rfl hl.1 rfl (Nat.le_of_ble_eq_true rfl) ⟨Nat.zero_le _, Nat.zero_le _⟩ dX4_film_40 (fun r40 hw40 => ?_)
    rcases hw40 with ⟨rfl, js40, ji40, nn40, q40, hjs40, rfl, hq40, eq40, rfl, enn40, hs40⟩ | ⟨rfl, hnu40⟩ | ⟨rfl, js40, hjs40, ejs40, eq40⟩ | ⟨rfl, js40, q40, hjs40, ejs40, hq40, eq40, hpl40⟩
    · skip
      obtain ⟨hzs, hzv⟩ := ShX.sz hRX.2.2.2.2.2.2.2.2 hIS hjs40 hq40 eq40
      have hnn : cnt (sdb (wn.2 7) (wn.2 8) (wn.2 4 a1)) (sg.1 4) = nn40 := (nI_eq (a := cnt (sdb (wn.2 7) (wn.2 8) (wn.2 4 a1)) (sg.1 4)) (b := nn40) (by omega) (by omega)).mp enn40
      have hE : refS sg (nI js40) (nI ji40) (cnt (sdb (wn.2 7) (wn.2 8) (wn.2 4 a1)) (sg.1 4)) = 0 := ref_ok hjs40 hzs hq40 (by omega)
      have hct : cnt (sdb (wn.2 7) (wn.2 8) (wn.2 4 a1)) (sg.1 4) = nlS sg (cvS sg a1) := by rw [hC.c4 (v := a1) (by omega)]; exact hC.nl _
      rw [hct] at hE
      refine lv_istore (lv' := [(5, .int (0 : Int32)), (4, .int (nI (cnt (sdb (wn.2 7) (wn.2 8) ((wn.2 4) a1)) (sg.1 4)))), (0, .ref (h 0)), (1, .int (nI a1)), (2, .int (nI js40)), (3, .int (nI ji40))]) hx hb dX4_film_43 hl (by decide) rfl (fun ls hl => ?_)
      refine lv_iload hx hb dX4_film_45 (lv_at hl 0 rfl) ?_
      refine lv_if_eq (tgt := 53) hx hb dX4_film_47 (by decide) (fun _ => ?_) (fun c9 => absurd (by decide) c9)
      rcases (show js40 = 0 ∨ js40 = 1 ∨ js40 = 2 ∨ js40 = 3 by omega) with rfl | rfl | rfl | rfl
      · skip
        refine lv_iload_n hx hb dX4_film_53 rfl (lv_at hl 5 rfl) ?_
        refine lv_istore (lv' := [(6, .int (nI ji40)), (5, .int (0 : Int32)), (4, .int (nI (cnt (sdb (wn.2 7) (wn.2 8) ((wn.2 4) a1)) (sg.1 4)))), (0, .ref (h 0)), (1, .int (nI a1)), (2, .int (nI 0)), (3, .int (nI ji40))]) hx hb dX4_film_54 hl (by decide) rfl (fun ls hl => ?_)
        refine lv_iconst (v := nI 0) hx hb dX4_film_56 (by decide) ?_
        refine lv_istore (lv' := [(7, .int (nI 0)), (6, .int (nI ji40)), (5, .int (0 : Int32)), (4, .int (nI (cnt (sdb (wn.2 7) (wn.2 8) ((wn.2 4) a1)) (sg.1 4)))), (0, .ref (h 0)), (1, .int (nI a1)), (2, .int (nI 0)), (3, .int (nI ji40))]) hx hb dX4_film_57 hl (by decide) rfl (fun ls hl => ?_)
        have LP59 : ∀ (n59m : Nat), ∀ (k : Nat) (pp : Nat) (jk : Nat → Nat → Int64) (hk : k ≤ sg.1 4) (hp : pp = ji40 + cnt (sdb (wn.2 7) (wn.2 8) (wn.2 4 a1)) k) (hss : ∀ a9 q, jk a9 q = if a9 = 0 ∧ ji40 ≤ q ∧ q < ji40 + cnt (sdb (wn.2 7) (wn.2 8) (wn.2 4 a1)) k then (fun n => picS sg (fndN (sdS sg (cvS sg a1)) (sg.1 4) n)) (q - ji40) else jj a9 q), (sg.1 4 - k < n59m) → ∀ (H : Heap) (locs : List Loc) (ls : Array Slot), PP G (xw G h x wn wa w0 w1 rd wr z jk lt) H → va_D A (xw G h x wn wa w0 w1 rd wr z jk lt) → va_S A s.heap H locs → lv_has ls 8 [(0, .ref (h 0)), (1, .int (nI a1)), (2, .int (nI 0)), (4, .int (nI (cnt (sdb (wn.2 7) (wn.2 8) (wn.2 4 a1)) (sg.1 4)))), (6, .int (nI pp)), (7, .int (nI k))] → W p l e (headSpec wsX4_film ({ frames := 3, cells := 0, slots := 0, locals := 67 })).room s m ([.ref (h 0), .int (nI a1), .int (nI 0), .int (nI ji40)] : List Value).toArray below meth c H locs 0 0 (MQ below (va_Qi (fun (r : Int32) (v : oS × oS × oS × oS × oS × oS × oS × oS × (Nat → Nat → Int64) × Int64) => RpX v (sg) (filZ sg zz (nI a1) (nI 0) (nI ji40)) ∧ r = filA sg (nI a1) (nI 0) (nI ji40)) (fun v t => PP G (xw G h v.1 v.2.1 v.2.2.1 v.2.2.2.1 v.2.2.2.2.1 v.2.2.2.2.2.1 v.2.2.2.2.2.2.1 v.2.2.2.2.2.2.2.1 v.2.2.2.2.2.2.2.2.1 v.2.2.2.2.2.2.2.2.2) t.heap) A) ([.ref (h 0), .int (nI a1), .int (nI 0), .int (nI ji40)] : List Value).toArray s 0 0 A) (F0 m 59 ls []) := by
          intro n59m
          induction n59m with
          | zero => intro k pp jk hk hp hss hmu H locs ls hP hD hS hl; exact absurd hmu (Nat.not_lt_zero _)
          | succ n59m ih59 =>
            intro k pp jk hk hp hss hmu H locs ls hP hD hS hl
            refine lv_iload hx hb dX4_film_59 (lv_at hl 5 rfl) ?_
            refine lv_aload_n hx hb dX4_film_61 rfl (lv_at hl 0 rfl) ?_
            refine va_get (D := gD G) (ci := 4) (v := .ref (h 10)) (C := RX4) (T := TX4) (N := 9) hx hb hts hiX4 hown hK hP 0 (xp_0 _ _ _ _ _ _ _ _ _ _ _ _) rfl 0 (by decide) k10 (fun _ h9 => h9) rfl dX4_film_62 ?_
            refine va_getN (D := gD G) (ci := 3) (v := .int (wn.1 5)) (C := RX3) (T := TX3) (N := 9) hx hb hts hiX3 hown hK hP 3 (xp_3 _ _ _ _ _ _ _ _ _ _ _ _) rfl 5 (by decide) k85 (fun _ h9 => h9) rfl dX4_film_65 ?_
            refine topE hC.2.1 ?_
            refine lv_icmp_ge (tgt := 122) hx hb dX4_film_68 (by decide) (fun c68 => ?_) (fun c68 => ?_)
            · skip
              have n68 : (sg.1 4) ≤ k := (nI_leI (a := sg.1 4) (b := k) (by omega) (by omega)).mp c68
              refine lv_iload hx hb dX4_film_122 (lv_at hl 3 rfl) ?_
              exact W.iret (v := nI (cnt (sdb (wn.2 7) (wn.2 8) (wn.2 4 a1)) (sg.1 4))) hx hb hr (fun t ht hW => ⟨⟨nI (cnt (sdb (wn.2 7) (wn.2 8) (wn.2 4 a1)) (sg.1 4)), (x, wn, wa, w0, w1, rd, wr, z, jk, lt), rfl, ⟨by rw [filZ, if_pos (inR_t ha1 (by omega)), vN_n (j := a1) (by omega), if_pos hE, vN_n (j := 0) (by omega), vN_n (j := ji40) (by omega)]; exact RepX.zn hRX (ShX_fil hRX.2.2.2.2.2.2.2.2 (fun a9 q => (hss a9 q).trans (by rw [show k = sg.1 4 by omega, hct]))), by rw [filA, if_pos (inR_t ha1 (by omega)), vN_n (j := a1) (by omega), if_pos hE, hct]⟩, show PP G (xw G h x wn wa w0 w1 rd wr z jk lt) t.heap by rw [ht]; exact hP⟩, hS.F ht⟩) hS.2.2 dX4_film_124
            · skip
              have n68 : ¬ ((sg.1 4) ≤ k) := fun q9 => c68 ((nI_leI (a := sg.1 4) (b := k) (by omega) (by omega)).mpr q9)
              refine lv_aload_n hx hb dX4_film_71 rfl (lv_at hl 0 rfl) ?_
              refine va_get (D := gD G) (ci := 4) (v := .ref (h 10)) (C := RX4) (T := TX4) (N := 9) hx hb hts hiX4 hown hK hP 0 (xp_0 _ _ _ _ _ _ _ _ _ _ _ _) rfl 0 (by decide) k10 (fun _ h9 => h9) rfl dX4_film_72 ?_
              refine lv_iload hx hb dX4_film_75 (lv_at hl 5 rfl) ?_
              refine lv_aload_n hx hb dX4_film_77 rfl (lv_at hl 0 rfl) ?_
              refine va_get (D := gD G) (ci := 4) (v := .ref (h 10)) (C := RX4) (T := TX4) (N := 9) hx hb hts hiX4 hown hK hP 0 (xp_0 _ _ _ _ _ _ _ _ _ _ _ _) rfl 0 (by decide) k10 (fun _ h9 => h9) rfl dX4_film_78 ?_
              refine va_getN (D := gD G) (ci := 3) (v := .ref (h 14)) (C := RX3) (T := TX3) (N := 9) hx hb hts hiX3 hown hK hP 3 (xp_3 _ _ _ _ _ _ _ _ _ _ _ _) rfl 4 (by decide) k115 (fun _ h9 => h9) rfl dX4_film_81 ?_
              refine lv_iload_n hx hb dX4_film_84 rfl (lv_at hl 1 rfl) ?_
              refine ialdN (f := wn.2 4) (n := 24) (k := a1) hx hb hK hP 7 (xp_7 _ _ _ _ _ _ _ _ _ _ _ _) rfl (by omega) dX4_film_85 ?_
              refine cRi (w := wv G (fun k => h (10 + k)) wn) (As := [.int (nI k), .int ((wn.2 4) a1)]) (rest := []) ⟨hx, hb, hml, hown, hts⟩ (mt_X3_stands l G (fun k => h (10 + k)) wn k ((wn.2 4) a1) (by first | assumption | omega)) (cwV 2 hts gX4_film_X3_stands rfl rfl rfl ⟨rfl, hd_X3_stands⟩ ⟨Nat.le_of_ble_eq_true rfl, Nat.le_of_ble_eq_true rfl⟩) hK hN (hP.sub [3, 4, 5, 6, 7, 8, 9, 10] (xf_now _ _ _ _ _ _ _ _ _ _ _ _)) 0 3 rfl rfl rfl hl.1 rfl (Nat.le_of_ble_eq_true rfl) ⟨Nat.zero_le _, Nat.zero_le _⟩ dX4_film_86 (fun r86 hw86 => ?_)
              rcases hw86 with ⟨rfl, hy86⟩ | ⟨rfl, hn86⟩
              · skip
                refine lv_if_eq (tgt := 116) hx hb dX4_film_89 (by decide) (fun c9 => absurd c9 (by decide)) (fun _ => ?_)
                have hm89 := cnt_mono (sdb (wn.2 7) (wn.2 8) (wn.2 4 a1)) (a := k + 1) (b := sg.1 4) (by omega)
                rw [cnt_t (by assumption)] at hm89
                refine lv_aload_n hx hb dX4_film_92 rfl (lv_at hl 0 rfl) ?_
                refine va_get (D := gD G) (ci := 4) (v := .ref (h 70)) (C := RX4) (T := TX4) (N := 9) hx hb hts hiX4 hown hK hP 0 (xp_0 _ _ _ _ _ _ _ _ _ _ _ _) rfl 5 (by decide) k37 (fun _ h9 => h9) rfl dX4_film_93 ?_
                refine va_getN (D := gD G) (ci := 2) (v := .ref (h 71)) (C := RX2) (T := TX2) (N := 2) hx hb hts hiX2 hown hK hP 47 (xp_47 _ _ _ _ _ _ _ _ _ _ _ _) rfl 0 (by decide) k229 (fun _ h9 => h9) rfl dX4_film_96 ?_
                refine lv_iload_n hx hb dX4_film_99 rfl (lv_at hl 2 rfl) ?_
                refine aaldJ (f := fun i => some (h (70 + (3 + i)))) (n := 4) (k := 0) (b := h 73) hx hb hK hP 48 (xp_48 _ _ _ _ _ _ _ _ _ _ _ _) rfl (by decide) rfl dX4_film_100 ?_
                refine lv_iload hx hb dX4_film_101 (lv_at hl 4 rfl) ?_
                refine lv_aload_n hx hb dX4_film_103 rfl (lv_at hl 0 rfl) ?_
                refine va_get (D := gD G) (ci := 4) (v := .ref (h 10)) (C := RX4) (T := TX4) (N := 9) hx hb hts hiX4 hown hK hP 0 (xp_0 _ _ _ _ _ _ _ _ _ _ _ _) rfl 0 (by decide) k10 (fun _ h9 => h9) rfl dX4_film_104 ?_
                refine lv_iload hx hb dX4_film_107 (lv_at hl 5 rfl) ?_
                refine cRl (w := wv G (fun k => h (10 + k)) wn) (As := [.int (nI k)]) (rest := [.int (nI pp), .ref (h 73)]) ⟨hx, hb, hml, hown, hts⟩ (mt_X3_pictureOfF l G (fun k => h (10 + k)) wn (sg.1 0) k (hC.1) (by first | assumption | omega) (by first | assumption | omega)) (cwV 1 hts gX4_film_X3_pictureOf rfl rfl rfl ⟨rfl, hd_X3_pictureOf⟩ ⟨Nat.le_of_ble_eq_true rfl, Nat.le_of_ble_eq_true rfl⟩) hK hN (hP.sub [3, 4, 5, 6, 7, 8, 9, 10] (xf_now _ _ _ _ _ _ _ _ _ _ _ _)) 0 3 rfl rfl rfl hl.1 rfl (Nat.le_of_ble_eq_true rfl) ⟨Nat.zero_le _, Nat.zero_le _⟩ dX4_film_109 (fun r109 hw109 => ?_)
                obtain rfl := hw109
                refine lastN (f := jk 0) (n := 40) (k := pp) hx hb hK hP hD hS 50 (xp_50 _ _ _ _ _ _ _ _ _ _ _ _) rfl (by omega) dX4_film_112 (fun H locs hP hD hS => ?_)
                rw [xs_50] at hP hD
                have hP : PP G (xw G h x wn wa w0 w1 rd wr z (va_up jk 0 (vp_updL (jk 0) pp ((wn.2 6 k).toInt64 + 256 * (wn.2 7 k).toInt64 + 65536 * (lifF (fun v => sdb (wn.2 7) (wn.2 8) (wn.2 4 v) k) (sg.1 0)).toInt64))) lt) H := hP
                have hD : va_D A (xw G h x wn wa w0 w1 rd wr z (va_up jk 0 (vp_updL (jk 0) pp ((wn.2 6 k).toInt64 + 256 * (wn.2 7 k).toInt64 + 65536 * (lifF (fun v => sdb (wn.2 7) (wn.2 8) (wn.2 4 v) k) (sg.1 0)).toInt64))) lt) := hD
                refine lv_iinc (v := nI (pp + 1)) (lv' := [(6, .int (nI (pp + 1))), (0, .ref (h 0)), (1, .int (nI a1)), (2, .int (nI 0)), (4, .int (nI (cnt (sdb (wn.2 7) (wn.2 8) (wn.2 4 a1)) (sg.1 4)))), (7, .int (nI k))]) hx hb dX4_film_113 hl (k := 4) rfl (nI_1 pp) (by decide) rfl (fun ls hl => ?_)
                refine lv_iinc (v := nI (k + 1)) (lv' := [(7, .int (nI (k + 1))), (6, .int (nI (pp + 1))), (0, .ref (h 0)), (1, .int (nI a1)), (2, .int (nI 0)), (4, .int (nI (cnt (sdb (wn.2 7) (wn.2 8) (wn.2 4 a1)) (sg.1 4))))]) hx hb dX4_film_116 hl (k := 5) rfl (nI_1 k) (by decide) rfl (fun ls hl => ?_)
                refine lv_goto (tgt := 59) hx hb dX4_film_119 (by decide) ?_
                exact ih59 (k + 1) (pp + 1) (va_up jk 0 (vp_updL (jk 0) pp ((wn.2 6 k).toInt64 + 256 * (wn.2 7 k).toInt64 + 65536 * (lifF (fun v => sdb (wn.2 7) (wn.2 8) (wn.2 4 v) k) (sg.1 0)).toInt64))) (by first | assumption | omega) (by first | rfl | omega | (rw [cnt_t (by assumption)]; omega) | (rw [cnt_f (by assumption)]; omega)) (filX_t (P := (fun n => picS sg (fndN (sdS sg (cvS sg a1)) (sg.1 4) n))) hp (cnt_t (by assumption)) hss (show _ = picS sg (fndN (sdS sg (cvS sg a1)) (sg.1 4) (cnt (sdb (wn.2 7) (wn.2 8) (wn.2 4 a1)) k)) from by rw [hC.fv (v := a1) (i := k) (by omega) (by omega) (by assumption) rfl]; exact picX hC (by omega) (by omega))) (by omega) _ _ ls hP hD hS (lv_sub hl [2, 3, 4, 5, 1, 0] rfl)
              · skip
                refine lv_if_eq (tgt := 116) hx hb dX4_film_89 (by decide) (fun _ => ?_) (fun c9 => absurd (by decide) c9)
                refine lv_iinc (v := nI (k + 1)) (lv' := [(7, .int (nI (k + 1))), (0, .ref (h 0)), (1, .int (nI a1)), (2, .int (nI 0)), (4, .int (nI (cnt (sdb (wn.2 7) (wn.2 8) (wn.2 4 a1)) (sg.1 4)))), (6, .int (nI pp))]) hx hb dX4_film_116 hl (k := 5) rfl (nI_1 k) (by decide) rfl (fun ls hl => ?_)
                refine lv_goto (tgt := 59) hx hb dX4_film_119 (by decide) ?_
                exact ih59 (k + 1) pp jk (by first | assumption | omega) (by first | rfl | omega | (rw [cnt_t (by assumption)]; omega) | (rw [cnt_f (by assumption)]; omega)) ((fun a9 q => (hss a9 q).trans (by rw [cnt_f (by assumption)]))) (by omega) _ _ ls hP hD hS (lv_sub hl [1, 2, 3, 4, 5, 0] rfl)
        exact LP59 (sg.1 4 - 0 + 1) 0 ji40 jj (by first | assumption | omega) (by first | rfl | omega | (rw [cnt_t (by assumption)]; omega) | (rw [cnt_f (by assumption)]; omega)) (fun a9 q => by rw [if_neg (fun q9 => by have := q9.2; simp only [cnt] at this; omega)]) (Nat.lt_succ_self _) _ _ ls hP hD hS (lv_sub hl [4, 5, 6, 3, 1, 0] rfl)
      · skip
        refine lv_iload_n hx hb dX4_film_53 rfl (lv_at hl 5 rfl) ?_
        refine lv_istore (lv' := [(6, .int (nI ji40)), (5, .int (0 : Int32)), (4, .int (nI (cnt (sdb (wn.2 7) (wn.2 8) ((wn.2 4) a1)) (sg.1 4)))), (0, .ref (h 0)), (1, .int (nI a1)), (2, .int (nI 1)), (3, .int (nI ji40))]) hx hb dX4_film_54 hl (by decide) rfl (fun ls hl => ?_)
        refine lv_iconst (v := nI 0) hx hb dX4_film_56 (by decide) ?_
        refine lv_istore (lv' := [(7, .int (nI 0)), (6, .int (nI ji40)), (5, .int (0 : Int32)), (4, .int (nI (cnt (sdb (wn.2 7) (wn.2 8) ((wn.2 4) a1)) (sg.1 4)))), (0, .ref (h 0)), (1, .int (nI a1)), (2, .int (nI 1)), (3, .int (nI ji40))]) hx hb dX4_film_57 hl (by decide) rfl (fun ls hl => ?_)
        have LP59 : ∀ (n59m : Nat), ∀ (k : Nat) (pp : Nat) (jk : Nat → Nat → Int64) (hk : k ≤ sg.1 4) (hp : pp = ji40 + cnt (sdb (wn.2 7) (wn.2 8) (wn.2 4 a1)) k) (hss : ∀ a9 q, jk a9 q = if a9 = 1 ∧ ji40 ≤ q ∧ q < ji40 + cnt (sdb (wn.2 7) (wn.2 8) (wn.2 4 a1)) k then (fun n => picS sg (fndN (sdS sg (cvS sg a1)) (sg.1 4) n)) (q - ji40) else jj a9 q), (sg.1 4 - k < n59m) → ∀ (H : Heap) (locs : List Loc) (ls : Array Slot), PP G (xw G h x wn wa w0 w1 rd wr z jk lt) H → va_D A (xw G h x wn wa w0 w1 rd wr z jk lt) → va_S A s.heap H locs → lv_has ls 8 [(0, .ref (h 0)), (1, .int (nI a1)), (2, .int (nI 1)), (4, .int (nI (cnt (sdb (wn.2 7) (wn.2 8) (wn.2 4 a1)) (sg.1 4)))), (6, .int (nI pp)), (7, .int (nI k))] → W p l e (headSpec wsX4_film ({ frames := 3, cells := 0, slots := 0, locals := 67 })).room s m ([.ref (h 0), .int (nI a1), .int (nI 1), .int (nI ji40)] : List Value).toArray below meth c H locs 0 0 (MQ below (va_Qi (fun (r : Int32) (v : oS × oS × oS × oS × oS × oS × oS × oS × (Nat → Nat → Int64) × Int64) => RpX v (sg) (filZ sg zz (nI a1) (nI 1) (nI ji40)) ∧ r = filA sg (nI a1) (nI 1) (nI ji40)) (fun v t => PP G (xw G h v.1 v.2.1 v.2.2.1 v.2.2.2.1 v.2.2.2.2.1 v.2.2.2.2.2.1 v.2.2.2.2.2.2.1 v.2.2.2.2.2.2.2.1 v.2.2.2.2.2.2.2.2.1 v.2.2.2.2.2.2.2.2.2) t.heap) A) ([.ref (h 0), .int (nI a1), .int (nI 1), .int (nI ji40)] : List Value).toArray s 0 0 A) (F0 m 59 ls []) := by
          intro n59m
          induction n59m with
          | zero => intro k pp jk hk hp hss hmu H locs ls hP hD hS hl; exact absurd hmu (Nat.not_lt_zero _)
          | succ n59m ih59 =>
            intro k pp jk hk hp hss hmu H locs ls hP hD hS hl
            refine lv_iload hx hb dX4_film_59 (lv_at hl 5 rfl) ?_
            refine lv_aload_n hx hb dX4_film_61 rfl (lv_at hl 0 rfl) ?_
            refine va_get (D := gD G) (ci := 4) (v := .ref (h 10)) (C := RX4) (T := TX4) (N := 9) hx hb hts hiX4 hown hK hP 0 (xp_0 _ _ _ _ _ _ _ _ _ _ _ _) rfl 0 (by decide) k10 (fun _ h9 => h9) rfl dX4_film_62 ?_
            refine va_getN (D := gD G) (ci := 3) (v := .int (wn.1 5)) (C := RX3) (T := TX3) (N := 9) hx hb hts hiX3 hown hK hP 3 (xp_3 _ _ _ _ _ _ _ _ _ _ _ _) rfl 5 (by decide) k85 (fun _ h9 => h9) rfl dX4_film_65 ?_
            refine topE hC.2.1 ?_
            refine lv_icmp_ge (tgt := 122) hx hb dX4_film_68 (by decide) (fun c68 => ?_) (fun c68 => ?_)
            · skip
              have n68 : (sg.1 4) ≤ k := (nI_leI (a := sg.1 4) (b := k) (by omega) (by omega)).mp c68
              refine lv_iload hx hb dX4_film_122 (lv_at hl 3 rfl) ?_
              exact W.iret (v := nI (cnt (sdb (wn.2 7) (wn.2 8) (wn.2 4 a1)) (sg.1 4))) hx hb hr (fun t ht hW => ⟨⟨nI (cnt (sdb (wn.2 7) (wn.2 8) (wn.2 4 a1)) (sg.1 4)), (x, wn, wa, w0, w1, rd, wr, z, jk, lt), rfl, ⟨by rw [filZ, if_pos (inR_t ha1 (by omega)), vN_n (j := a1) (by omega), if_pos hE, vN_n (j := 1) (by omega), vN_n (j := ji40) (by omega)]; exact RepX.zn hRX (ShX_fil hRX.2.2.2.2.2.2.2.2 (fun a9 q => (hss a9 q).trans (by rw [show k = sg.1 4 by omega, hct]))), by rw [filA, if_pos (inR_t ha1 (by omega)), vN_n (j := a1) (by omega), if_pos hE, hct]⟩, show PP G (xw G h x wn wa w0 w1 rd wr z jk lt) t.heap by rw [ht]; exact hP⟩, hS.F ht⟩) hS.2.2 dX4_film_124
            · skip
              have n68 : ¬ ((sg.1 4) ≤ k) := fun q9 => c68 ((nI_leI (a := sg.1 4) (b := k) (by omega) (by omega)).mpr q9)
              refine lv_aload_n hx hb dX4_film_71 rfl (lv_at hl 0 rfl) ?_
              refine va_get (D := gD G) (ci := 4) (v := .ref (h 10)) (C := RX4) (T := TX4) (N := 9) hx hb hts hiX4 hown hK hP 0 (xp_0 _ _ _ _ _ _ _ _ _ _ _ _) rfl 0 (by decide) k10 (fun _ h9 => h9) rfl dX4_film_72 ?_
              refine lv_iload hx hb dX4_film_75 (lv_at hl 5 rfl) ?_
              refine lv_aload_n hx hb dX4_film_77 rfl (lv_at hl 0 rfl) ?_
              refine va_get (D := gD G) (ci := 4) (v := .ref (h 10)) (C := RX4) (T := TX4) (N := 9) hx hb hts hiX4 hown hK hP 0 (xp_0 _ _ _ _ _ _ _ _ _ _ _ _) rfl 0 (by decide) k10 (fun _ h9 => h9) rfl dX4_film_78 ?_
              refine va_getN (D := gD G) (ci := 3) (v := .ref (h 14)) (C := RX3) (T := TX3) (N := 9) hx hb hts hiX3 hown hK hP 3 (xp_3 _ _ _ _ _ _ _ _ _ _ _ _) rfl 4 (by decide) k115 (fun _ h9 => h9) rfl dX4_film_81 ?_
              refine lv_iload_n hx hb dX4_film_84 rfl (lv_at hl 1 rfl) ?_
              refine ialdN (f := wn.2 4) (n := 24) (k := a1) hx hb hK hP 7 (xp_7 _ _ _ _ _ _ _ _ _ _ _ _) rfl (by omega) dX4_film_85 ?_
              refine cRi (w := wv G (fun k => h (10 + k)) wn) (As := [.int (nI k), .int ((wn.2 4) a1)]) (rest := []) ⟨hx, hb, hml, hown, hts⟩ (mt_X3_stands l G (fun k => h (10 + k)) wn k ((wn.2 4) a1) (by first | assumption | omega)) (cwV 2 hts gX4_film_X3_stands rfl rfl rfl ⟨rfl, hd_X3_stands⟩ ⟨Nat.le_of_ble_eq_true rfl, Nat.le_of_ble_eq_true rfl⟩) hK hN (hP.sub [3, 4, 5, 6, 7, 8, 9, 10] (xf_now _ _ _ _ _ _ _ _ _ _ _ _)) 0 3 rfl rfl rfl hl.1 rfl (Nat.le_of_ble_eq_true rfl) ⟨Nat.zero_le _, Nat.zero_le _⟩ dX4_film_86 (fun r86 hw86 => ?_)
              rcases hw86 with ⟨rfl, hy86⟩ | ⟨rfl, hn86⟩
              · skip
                refine lv_if_eq (tgt := 116) hx hb dX4_film_89 (by decide) (fun c9 => absurd c9 (by decide)) (fun _ => ?_)
                have hm89 := cnt_mono (sdb (wn.2 7) (wn.2 8) (wn.2 4 a1)) (a := k + 1) (b := sg.1 4) (by omega)
                rw [cnt_t (by assumption)] at hm89
                refine lv_aload_n hx hb dX4_film_92 rfl (lv_at hl 0 rfl) ?_
                refine va_get (D := gD G) (ci := 4) (v := .ref (h 70)) (C := RX4) (T := TX4) (N := 9) hx hb hts hiX4 hown hK hP 0 (xp_0 _ _ _ _ _ _ _ _ _ _ _ _) rfl 5 (by decide) k37 (fun _ h9 => h9) rfl dX4_film_93 ?_
                refine va_getN (D := gD G) (ci := 2) (v := .ref (h 71)) (C := RX2) (T := TX2) (N := 2) hx hb hts hiX2 hown hK hP 47 (xp_47 _ _ _ _ _ _ _ _ _ _ _ _) rfl 0 (by decide) k229 (fun _ h9 => h9) rfl dX4_film_96 ?_
                refine lv_iload_n hx hb dX4_film_99 rfl (lv_at hl 2 rfl) ?_
                refine aaldJ (f := fun i => some (h (70 + (3 + i)))) (n := 4) (k := 1) (b := h 74) hx hb hK hP 48 (xp_48 _ _ _ _ _ _ _ _ _ _ _ _) rfl (by decide) rfl dX4_film_100 ?_
                refine lv_iload hx hb dX4_film_101 (lv_at hl 4 rfl) ?_
                refine lv_aload_n hx hb dX4_film_103 rfl (lv_at hl 0 rfl) ?_
                refine va_get (D := gD G) (ci := 4) (v := .ref (h 10)) (C := RX4) (T := TX4) (N := 9) hx hb hts hiX4 hown hK hP 0 (xp_0 _ _ _ _ _ _ _ _ _ _ _ _) rfl 0 (by decide) k10 (fun _ h9 => h9) rfl dX4_film_104 ?_
                refine lv_iload hx hb dX4_film_107 (lv_at hl 5 rfl) ?_
                refine cRl (w := wv G (fun k => h (10 + k)) wn) (As := [.int (nI k)]) (rest := [.int (nI pp), .ref (h 74)]) ⟨hx, hb, hml, hown, hts⟩ (mt_X3_pictureOfF l G (fun k => h (10 + k)) wn (sg.1 0) k (hC.1) (by first | assumption | omega) (by first | assumption | omega)) (cwV 1 hts gX4_film_X3_pictureOf rfl rfl rfl ⟨rfl, hd_X3_pictureOf⟩ ⟨Nat.le_of_ble_eq_true rfl, Nat.le_of_ble_eq_true rfl⟩) hK hN (hP.sub [3, 4, 5, 6, 7, 8, 9, 10] (xf_now _ _ _ _ _ _ _ _ _ _ _ _)) 0 3 rfl rfl rfl hl.1 rfl (Nat.le_of_ble_eq_true rfl) ⟨Nat.zero_le _, Nat.zero_le _⟩ dX4_film_109 (fun r109 hw109 => ?_)
                obtain rfl := hw109
                refine lastN (f := jk 1) (n := 40) (k := pp) hx hb hK hP hD hS 51 (xp_51 _ _ _ _ _ _ _ _ _ _ _ _) rfl (by omega) dX4_film_112 (fun H locs hP hD hS => ?_)
                rw [xs_51] at hP hD
                have hP : PP G (xw G h x wn wa w0 w1 rd wr z (va_up jk 1 (vp_updL (jk 1) pp ((wn.2 6 k).toInt64 + 256 * (wn.2 7 k).toInt64 + 65536 * (lifF (fun v => sdb (wn.2 7) (wn.2 8) (wn.2 4 v) k) (sg.1 0)).toInt64))) lt) H := hP
                have hD : va_D A (xw G h x wn wa w0 w1 rd wr z (va_up jk 1 (vp_updL (jk 1) pp ((wn.2 6 k).toInt64 + 256 * (wn.2 7 k).toInt64 + 65536 * (lifF (fun v => sdb (wn.2 7) (wn.2 8) (wn.2 4 v) k) (sg.1 0)).toInt64))) lt) := hD
                refine lv_iinc (v := nI (pp + 1)) (lv' := [(6, .int (nI (pp + 1))), (0, .ref (h 0)), (1, .int (nI a1)), (2, .int (nI 1)), (4, .int (nI (cnt (sdb (wn.2 7) (wn.2 8) (wn.2 4 a1)) (sg.1 4)))), (7, .int (nI k))]) hx hb dX4_film_113 hl (k := 4) rfl (nI_1 pp) (by decide) rfl (fun ls hl => ?_)
                refine lv_iinc (v := nI (k + 1)) (lv' := [(7, .int (nI (k + 1))), (6, .int (nI (pp + 1))), (0, .ref (h 0)), (1, .int (nI a1)), (2, .int (nI 1)), (4, .int (nI (cnt (sdb (wn.2 7) (wn.2 8) (wn.2 4 a1)) (sg.1 4))))]) hx hb dX4_film_116 hl (k := 5) rfl (nI_1 k) (by decide) rfl (fun ls hl => ?_)
                refine lv_goto (tgt := 59) hx hb dX4_film_119 (by decide) ?_
                exact ih59 (k + 1) (pp + 1) (va_up jk 1 (vp_updL (jk 1) pp ((wn.2 6 k).toInt64 + 256 * (wn.2 7 k).toInt64 + 65536 * (lifF (fun v => sdb (wn.2 7) (wn.2 8) (wn.2 4 v) k) (sg.1 0)).toInt64))) (by first | assumption | omega) (by first | rfl | omega | (rw [cnt_t (by assumption)]; omega) | (rw [cnt_f (by assumption)]; omega)) (filX_t (P := (fun n => picS sg (fndN (sdS sg (cvS sg a1)) (sg.1 4) n))) hp (cnt_t (by assumption)) hss (show _ = picS sg (fndN (sdS sg (cvS sg a1)) (sg.1 4) (cnt (sdb (wn.2 7) (wn.2 8) (wn.2 4 a1)) k)) from by rw [hC.fv (v := a1) (i := k) (by omega) (by omega) (by assumption) rfl]; exact picX hC (by omega) (by omega))) (by omega) _ _ ls hP hD hS (lv_sub hl [2, 3, 4, 5, 1, 0] rfl)
              · skip
                refine lv_if_eq (tgt := 116) hx hb dX4_film_89 (by decide) (fun _ => ?_) (fun c9 => absurd (by decide) c9)
                refine lv_iinc (v := nI (k + 1)) (lv' := [(7, .int (nI (k + 1))), (0, .ref (h 0)), (1, .int (nI a1)), (2, .int (nI 1)), (4, .int (nI (cnt (sdb (wn.2 7) (wn.2 8) (wn.2 4 a1)) (sg.1 4)))), (6, .int (nI pp))]) hx hb dX4_film_116 hl (k := 5) rfl (nI_1 k) (by decide) rfl (fun ls hl => ?_)
                refine lv_goto (tgt := 59) hx hb dX4_film_119 (by decide) ?_
                exact ih59 (k + 1) pp jk (by first | assumption | omega) (by first | rfl | omega | (rw [cnt_t (by assumption)]; omega) | (rw [cnt_f (by assumption)]; omega)) ((fun a9 q => (hss a9 q).trans (by rw [cnt_f (by assumption)]))) (by omega) _ _ ls hP hD hS (lv_sub hl [1, 2, 3, 4, 5, 0] rfl)
        exact LP59 (sg.1 4 - 0 + 1) 0 ji40 jj (by first | assumption | omega) (by first | rfl | omega | (rw [cnt_t (by assumption)]; omega) | (rw [cnt_f (by assumption)]; omega)) (fun a9 q => by rw [if_neg (fun q9 => by have := q9.2; simp only [cnt] at this; omega)]) (Nat.lt_succ_self _) _ _ ls hP hD hS (lv_sub hl [4, 5, 6, 3, 1, 0] rfl)
      · skip
        refine lv_iload_n hx hb dX4_film_53 rfl (lv_at hl 5 rfl) ?_
        refine lv_istore (lv' := [(6, .int (nI ji40)), (5, .int (0 : Int32)), (4, .int (nI (cnt (sdb (wn.2 7) (wn.2 8) ((wn.2 4) a1)) (sg.1 4)))), (0, .ref (h 0)), (1, .int (nI a1)), (2, .int (nI 2)), (3, .int (nI ji40))]) hx hb dX4_film_54 hl (by decide) rfl (fun ls hl => ?_)
        refine lv_iconst (v := nI 0) hx hb dX4_film_56 (by decide) ?_
        refine lv_istore (lv' := [(7, .int (nI 0)), (6, .int (nI ji40)), (5, .int (0 : Int32)), (4, .int (nI (cnt (sdb (wn.2 7) (wn.2 8) ((wn.2 4) a1)) (sg.1 4)))), (0, .ref (h 0)), (1, .int (nI a1)), (2, .int (nI 2)), (3, .int (nI ji40))]) hx hb dX4_film_57 hl (by decide) rfl (fun ls hl => ?_)
        have LP59 : ∀ (n59m : Nat), ∀ (k : Nat) (pp : Nat) (jk : Nat → Nat → Int64) (hk : k ≤ sg.1 4) (hp : pp = ji40 + cnt (sdb (wn.2 7) (wn.2 8) (wn.2 4 a1)) k) (hss : ∀ a9 q, jk a9 q = if a9 = 2 ∧ ji40 ≤ q ∧ q < ji40 + cnt (sdb (wn.2 7) (wn.2 8) (wn.2 4 a1)) k then (fun n => picS sg (fndN (sdS sg (cvS sg a1)) (sg.1 4) n)) (q - ji40) else jj a9 q), (sg.1 4 - k < n59m) → ∀ (H : Heap) (locs : List Loc) (ls : Array Slot), PP G (xw G h x wn wa w0 w1 rd wr z jk lt) H → va_D A (xw G h x wn wa w0 w1 rd wr z jk lt) → va_S A s.heap H locs → lv_has ls 8 [(0, .ref (h 0)), (1, .int (nI a1)), (2, .int (nI 2)), (4, .int (nI (cnt (sdb (wn.2 7) (wn.2 8) (wn.2 4 a1)) (sg.1 4)))), (6, .int (nI pp)), (7, .int (nI k))] → W p l e (headSpec wsX4_film ({ frames := 3, cells := 0, slots := 0, locals := 67 })).room s m ([.ref (h 0), .int (nI a1), .int (nI 2), .int (nI ji40)] : List Value).toArray below meth c H locs 0 0 (MQ below (va_Qi (fun (r : Int32) (v : oS × oS × oS × oS × oS × oS × oS × oS × (Nat → Nat → Int64) × Int64) => RpX v (sg) (filZ sg zz (nI a1) (nI 2) (nI ji40)) ∧ r = filA sg (nI a1) (nI 2) (nI ji40)) (fun v t => PP G (xw G h v.1 v.2.1 v.2.2.1 v.2.2.2.1 v.2.2.2.2.1 v.2.2.2.2.2.1 v.2.2.2.2.2.2.1 v.2.2.2.2.2.2.2.1 v.2.2.2.2.2.2.2.2.1 v.2.2.2.2.2.2.2.2.2) t.heap) A) ([.ref (h 0), .int (nI a1), .int (nI 2), .int (nI ji40)] : List Value).toArray s 0 0 A) (F0 m 59 ls []) := by
          intro n59m
          induction n59m with
          | zero => intro k pp jk hk hp hss hmu H locs ls hP hD hS hl; exact absurd hmu (Nat.not_lt_zero _)
          | succ n59m ih59 =>
            intro k pp jk hk hp hss hmu H locs ls hP hD hS hl
            refine lv_iload hx hb dX4_film_59 (lv_at hl 5 rfl) ?_
            refine lv_aload_n hx hb dX4_film_61 rfl (lv_at hl 0 rfl) ?_
            refine va_get (D := gD G) (ci := 4) (v := .ref (h 10)) (C := RX4) (T := TX4) (N := 9) hx hb hts hiX4 hown hK hP 0 (xp_0 _ _ _ _ _ _ _ _ _ _ _ _) rfl 0 (by decide) k10 (fun _ h9 => h9) rfl dX4_film_62 ?_
            refine va_getN (D := gD G) (ci := 3) (v := .int (wn.1 5)) (C := RX3) (T := TX3) (N := 9) hx hb hts hiX3 hown hK hP 3 (xp_3 _ _ _ _ _ _ _ _ _ _ _ _) rfl 5 (by decide) k85 (fun _ h9 => h9) rfl dX4_film_65 ?_
            refine topE hC.2.1 ?_
            refine lv_icmp_ge (tgt := 122) hx hb dX4_film_68 (by decide) (fun c68 => ?_) (fun c68 => ?_)
            · skip
              have n68 : (sg.1 4) ≤ k := (nI_leI (a := sg.1 4) (b := k) (by omega) (by omega)).mp c68
              refine lv_iload hx hb dX4_film_122 (lv_at hl 3 rfl) ?_
              exact W.iret (v := nI (cnt (sdb (wn.2 7) (wn.2 8) (wn.2 4 a1)) (sg.1 4))) hx hb hr (fun t ht hW => ⟨⟨nI (cnt (sdb (wn.2 7) (wn.2 8) (wn.2 4 a1)) (sg.1 4)), (x, wn, wa, w0, w1, rd, wr, z, jk, lt), rfl, ⟨by rw [filZ, if_pos (inR_t ha1 (by omega)), vN_n (j := a1) (by omega), if_pos hE, vN_n (j := 2) (by omega), vN_n (j := ji40) (by omega)]; exact RepX.zn hRX (ShX_fil hRX.2.2.2.2.2.2.2.2 (fun a9 q => (hss a9 q).trans (by rw [show k = sg.1 4 by omega, hct]))), by rw [filA, if_pos (inR_t ha1 (by omega)), vN_n (j := a1) (by omega), if_pos hE, hct]⟩, show PP G (xw G h x wn wa w0 w1 rd wr z jk lt) t.heap by rw [ht]; exact hP⟩, hS.F ht⟩) hS.2.2 dX4_film_124
            · skip
              have n68 : ¬ ((sg.1 4) ≤ k) := fun q9 => c68 ((nI_leI (a := sg.1 4) (b := k) (by omega) (by omega)).mpr q9)
              refine lv_aload_n hx hb dX4_film_71 rfl (lv_at hl 0 rfl) ?_
              refine va_get (D := gD G) (ci := 4) (v := .ref (h 10)) (C := RX4) (T := TX4) (N := 9) hx hb hts hiX4 hown hK hP 0 (xp_0 _ _ _ _ _ _ _ _ _ _ _ _) rfl 0 (by decide) k10 (fun _ h9 => h9) rfl dX4_film_72 ?_
              refine lv_iload hx hb dX4_film_75 (lv_at hl 5 rfl) ?_
              refine lv_aload_n hx hb dX4_film_77 rfl (lv_at hl 0 rfl) ?_
              refine va_get (D := gD G) (ci := 4) (v := .ref (h 10)) (C := RX4) (T := TX4) (N := 9) hx hb hts hiX4 hown hK hP 0 (xp_0 _ _ _ _ _ _ _ _ _ _ _ _) rfl 0 (by decide) k10 (fun _ h9 => h9) rfl dX4_film_78 ?_
              refine va_getN (D := gD G) (ci := 3) (v := .ref (h 14)) (C := RX3) (T := TX3) (N := 9) hx hb hts hiX3 hown hK hP 3 (xp_3 _ _ _ _ _ _ _ _ _ _ _ _) rfl 4 (by decide) k115 (fun _ h9 => h9) rfl dX4_film_81 ?_
              refine lv_iload_n hx hb dX4_film_84 rfl (lv_at hl 1 rfl) ?_
              refine ialdN (f := wn.2 4) (n := 24) (k := a1) hx hb hK hP 7 (xp_7 _ _ _ _ _ _ _ _ _ _ _ _) rfl (by omega) dX4_film_85 ?_
              refine cRi (w := wv G (fun k => h (10 + k)) wn) (As := [.int (nI k), .int ((wn.2 4) a1)]) (rest := []) ⟨hx, hb, hml, hown, hts⟩ (mt_X3_stands l G (fun k => h (10 + k)) wn k ((wn.2 4) a1) (by first | assumption | omega)) (cwV 2 hts gX4_film_X3_stands rfl rfl rfl ⟨rfl, hd_X3_stands⟩ ⟨Nat.le_of_ble_eq_true rfl, Nat.le_of_ble_eq_true rfl⟩) hK hN (hP.sub [3, 4, 5, 6, 7, 8, 9, 10] (xf_now _ _ _ _ _ _ _ _ _ _ _ _)) 0 3 rfl rfl rfl hl.1 rfl (Nat.le_of_ble_eq_true rfl) ⟨Nat.zero_le _, Nat.zero_le _⟩ dX4_film_86 (fun r86 hw86 => ?_)
              rcases hw86 with ⟨rfl, hy86⟩ | ⟨rfl, hn86⟩
              · skip
                refine lv_if_eq (tgt := 116) hx hb dX4_film_89 (by decide) (fun c9 => absurd c9 (by decide)) (fun _ => ?_)
                have hm89 := cnt_mono (sdb (wn.2 7) (wn.2 8) (wn.2 4 a1)) (a := k + 1) (b := sg.1 4) (by omega)
                rw [cnt_t (by assumption)] at hm89
                refine lv_aload_n hx hb dX4_film_92 rfl (lv_at hl 0 rfl) ?_
                refine va_get (D := gD G) (ci := 4) (v := .ref (h 70)) (C := RX4) (T := TX4) (N := 9) hx hb hts hiX4 hown hK hP 0 (xp_0 _ _ _ _ _ _ _ _ _ _ _ _) rfl 5 (by decide) k37 (fun _ h9 => h9) rfl dX4_film_93 ?_
                refine va_getN (D := gD G) (ci := 2) (v := .ref (h 71)) (C := RX2) (T := TX2) (N := 2) hx hb hts hiX2 hown hK hP 47 (xp_47 _ _ _ _ _ _ _ _ _ _ _ _) rfl 0 (by decide) k229 (fun _ h9 => h9) rfl dX4_film_96 ?_
                refine lv_iload_n hx hb dX4_film_99 rfl (lv_at hl 2 rfl) ?_
                refine aaldJ (f := fun i => some (h (70 + (3 + i)))) (n := 4) (k := 2) (b := h 75) hx hb hK hP 48 (xp_48 _ _ _ _ _ _ _ _ _ _ _ _) rfl (by decide) rfl dX4_film_100 ?_
                refine lv_iload hx hb dX4_film_101 (lv_at hl 4 rfl) ?_
                refine lv_aload_n hx hb dX4_film_103 rfl (lv_at hl 0 rfl) ?_
                refine va_get (D := gD G) (ci := 4) (v := .ref (h 10)) (C := RX4) (T := TX4) (N := 9) hx hb hts hiX4 hown hK hP 0 (xp_0 _ _ _ _ _ _ _ _ _ _ _ _) rfl 0 (by decide) k10 (fun _ h9 => h9) rfl dX4_film_104 ?_
                refine lv_iload hx hb dX4_film_107 (lv_at hl 5 rfl) ?_
                refine cRl (w := wv G (fun k => h (10 + k)) wn) (As := [.int (nI k)]) (rest := [.int (nI pp), .ref (h 75)]) ⟨hx, hb, hml, hown, hts⟩ (mt_X3_pictureOfF l G (fun k => h (10 + k)) wn (sg.1 0) k (hC.1) (by first | assumption | omega) (by first | assumption | omega)) (cwV 1 hts gX4_film_X3_pictureOf rfl rfl rfl ⟨rfl, hd_X3_pictureOf⟩ ⟨Nat.le_of_ble_eq_true rfl, Nat.le_of_ble_eq_true rfl⟩) hK hN (hP.sub [3, 4, 5, 6, 7, 8, 9, 10] (xf_now _ _ _ _ _ _ _ _ _ _ _ _)) 0 3 rfl rfl rfl hl.1 rfl (Nat.le_of_ble_eq_true rfl) ⟨Nat.zero_le _, Nat.zero_le _⟩ dX4_film_109 (fun r109 hw109 => ?_)
                obtain rfl := hw109
                refine lastN (f := jk 2) (n := 40) (k := pp) hx hb hK hP hD hS 52 (xp_52 _ _ _ _ _ _ _ _ _ _ _ _) rfl (by omega) dX4_film_112 (fun H locs hP hD hS => ?_)
                rw [xs_52] at hP hD
                have hP : PP G (xw G h x wn wa w0 w1 rd wr z (va_up jk 2 (vp_updL (jk 2) pp ((wn.2 6 k).toInt64 + 256 * (wn.2 7 k).toInt64 + 65536 * (lifF (fun v => sdb (wn.2 7) (wn.2 8) (wn.2 4 v) k) (sg.1 0)).toInt64))) lt) H := hP
                have hD : va_D A (xw G h x wn wa w0 w1 rd wr z (va_up jk 2 (vp_updL (jk 2) pp ((wn.2 6 k).toInt64 + 256 * (wn.2 7 k).toInt64 + 65536 * (lifF (fun v => sdb (wn.2 7) (wn.2 8) (wn.2 4 v) k) (sg.1 0)).toInt64))) lt) := hD
                refine lv_iinc (v := nI (pp + 1)) (lv' := [(6, .int (nI (pp + 1))), (0, .ref (h 0)), (1, .int (nI a1)), (2, .int (nI 2)), (4, .int (nI (cnt (sdb (wn.2 7) (wn.2 8) (wn.2 4 a1)) (sg.1 4)))), (7, .int (nI k))]) hx hb dX4_film_113 hl (k := 4) rfl (nI_1 pp) (by decide) rfl (fun ls hl => ?_)
                refine lv_iinc (v := nI (k + 1)) (lv' := [(7, .int (nI (k + 1))), (6, .int (nI (pp + 1))), (0, .ref (h 0)), (1, .int (nI a1)), (2, .int (nI 2)), (4, .int (nI (cnt (sdb (wn.2 7) (wn.2 8) (wn.2 4 a1)) (sg.1 4))))]) hx hb dX4_film_116 hl (k := 5) rfl (nI_1 k) (by decide) rfl (fun ls hl => ?_)
                refine lv_goto (tgt := 59) hx hb dX4_film_119 (by decide) ?_
                exact ih59 (k + 1) (pp + 1) (va_up jk 2 (vp_updL (jk 2) pp ((wn.2 6 k).toInt64 + 256 * (wn.2 7 k).toInt64 + 65536 * (lifF (fun v => sdb (wn.2 7) (wn.2 8) (wn.2 4 v) k) (sg.1 0)).toInt64))) (by first | assumption | omega) (by first | rfl | omega | (rw [cnt_t (by assumption)]; omega) | (rw [cnt_f (by assumption)]; omega)) (filX_t (P := (fun n => picS sg (fndN (sdS sg (cvS sg a1)) (sg.1 4) n))) hp (cnt_t (by assumption)) hss (show _ = picS sg (fndN (sdS sg (cvS sg a1)) (sg.1 4) (cnt (sdb (wn.2 7) (wn.2 8) (wn.2 4 a1)) k)) from by rw [hC.fv (v := a1) (i := k) (by omega) (by omega) (by assumption) rfl]; exact picX hC (by omega) (by omega))) (by omega) _ _ ls hP hD hS (lv_sub hl [2, 3, 4, 5, 1, 0] rfl)
              · skip
                refine lv_if_eq (tgt := 116) hx hb dX4_film_89 (by decide) (fun _ => ?_) (fun c9 => absurd (by decide) c9)
                refine lv_iinc (v := nI (k + 1)) (lv' := [(7, .int (nI (k + 1))), (0, .ref (h 0)), (1, .int (nI a1)), (2, .int (nI 2)), (4, .int (nI (cnt (sdb (wn.2 7) (wn.2 8) (wn.2 4 a1)) (sg.1 4)))), (6, .int (nI pp))]) hx hb dX4_film_116 hl (k := 5) rfl (nI_1 k) (by decide) rfl (fun ls hl => ?_)
                refine lv_goto (tgt := 59) hx hb dX4_film_119 (by decide) ?_
                exact ih59 (k + 1) pp jk (by first | assumption | omega) (by first | rfl | omega | (rw [cnt_t (by assumption)]; omega) | (rw [cnt_f (by assumption)]; omega)) ((fun a9 q => (hss a9 q).trans (by rw [cnt_f (by assumption)]))) (by omega) _ _ ls hP hD hS (lv_sub hl [1, 2, 3, 4, 5, 0] rfl)
        exact LP59 (sg.1 4 - 0 + 1) 0 ji40 jj (by first | assumption | omega) (by first | rfl | omega | (rw [cnt_t (by assumption)]; omega) | (rw [cnt_f (by assumption)]; omega)) (fun a9 q => by rw [if_neg (fun q9 => by have := q9.2; simp only [cnt] at this; omega)]) (Nat.lt_succ_self _) _ _ ls hP hD hS (lv_sub hl [4, 5, 6, 3, 1, 0] rfl)
      · skip
        refine lv_iload_n hx hb dX4_film_53 rfl (lv_at hl 5 rfl) ?_
        refine lv_istore (lv' := [(6, .int (nI ji40)), (5, .int (0 : Int32)), (4, .int (nI (cnt (sdb (wn.2 7) (wn.2 8) ((wn.2 4) a1)) (sg.1 4)))), (0, .ref (h 0)), (1, .int (nI a1)), (2, .int (nI 3)), (3, .int (nI ji40))]) hx hb dX4_film_54 hl (by decide) rfl (fun ls hl => ?_)
        refine lv_iconst (v := nI 0) hx hb dX4_film_56 (by decide) ?_
        refine lv_istore (lv' := [(7, .int (nI 0)), (6, .int (nI ji40)), (5, .int (0 : Int32)), (4, .int (nI (cnt (sdb (wn.2 7) (wn.2 8) ((wn.2 4) a1)) (sg.1 4)))), (0, .ref (h 0)), (1, .int (nI a1)), (2, .int (nI 3)), (3, .int (nI ji40))]) hx hb dX4_film_57 hl (by decide) rfl (fun ls hl => ?_)
        have LP59 : ∀ (n59m : Nat), ∀ (k : Nat) (pp : Nat) (jk : Nat → Nat → Int64) (hk : k ≤ sg.1 4) (hp : pp = ji40 + cnt (sdb (wn.2 7) (wn.2 8) (wn.2 4 a1)) k) (hss : ∀ a9 q, jk a9 q = if a9 = 3 ∧ ji40 ≤ q ∧ q < ji40 + cnt (sdb (wn.2 7) (wn.2 8) (wn.2 4 a1)) k then (fun n => picS sg (fndN (sdS sg (cvS sg a1)) (sg.1 4) n)) (q - ji40) else jj a9 q), (sg.1 4 - k < n59m) → ∀ (H : Heap) (locs : List Loc) (ls : Array Slot), PP G (xw G h x wn wa w0 w1 rd wr z jk lt) H → va_D A (xw G h x wn wa w0 w1 rd wr z jk lt) → va_S A s.heap H locs → lv_has ls 8 [(0, .ref (h 0)), (1, .int (nI a1)), (2, .int (nI 3)), (4, .int (nI (cnt (sdb (wn.2 7) (wn.2 8) (wn.2 4 a1)) (sg.1 4)))), (6, .int (nI pp)), (7, .int (nI k))] → W p l e (headSpec wsX4_film ({ frames := 3, cells := 0, slots := 0, locals := 67 })).room s m ([.ref (h 0), .int (nI a1), .int (nI 3), .int (nI ji40)] : List Value).toArray below meth c H locs 0 0 (MQ below (va_Qi (fun (r : Int32) (v : oS × oS × oS × oS × oS × oS × oS × oS × (Nat → Nat → Int64) × Int64) => RpX v (sg) (filZ sg zz (nI a1) (nI 3) (nI ji40)) ∧ r = filA sg (nI a1) (nI 3) (nI ji40)) (fun v t => PP G (xw G h v.1 v.2.1 v.2.2.1 v.2.2.2.1 v.2.2.2.2.1 v.2.2.2.2.2.1 v.2.2.2.2.2.2.1 v.2.2.2.2.2.2.2.1 v.2.2.2.2.2.2.2.2.1 v.2.2.2.2.2.2.2.2.2) t.heap) A) ([.ref (h 0), .int (nI a1), .int (nI 3), .int (nI ji40)] : List Value).toArray s 0 0 A) (F0 m 59 ls []) := by
          intro n59m
          induction n59m with
          | zero => intro k pp jk hk hp hss hmu H locs ls hP hD hS hl; exact absurd hmu (Nat.not_lt_zero _)
          | succ n59m ih59 =>
            intro k pp jk hk hp hss hmu H locs ls hP hD hS hl
            refine lv_iload hx hb dX4_film_59 (lv_at hl 5 rfl) ?_
            refine lv_aload_n hx hb dX4_film_61 rfl (lv_at hl 0 rfl) ?_
            refine va_get (D := gD G) (ci := 4) (v := .ref (h 10)) (C := RX4) (T := TX4) (N := 9) hx hb hts hiX4 hown hK hP 0 (xp_0 _ _ _ _ _ _ _ _ _ _ _ _) rfl 0 (by decide) k10 (fun _ h9 => h9) rfl dX4_film_62 ?_
            refine va_getN (D := gD G) (ci := 3) (v := .int (wn.1 5)) (C := RX3) (T := TX3) (N := 9) hx hb hts hiX3 hown hK hP 3 (xp_3 _ _ _ _ _ _ _ _ _ _ _ _) rfl 5 (by decide) k85 (fun _ h9 => h9) rfl dX4_film_65 ?_
            refine topE hC.2.1 ?_
            refine lv_icmp_ge (tgt := 122) hx hb dX4_film_68 (by decide) (fun c68 => ?_) (fun c68 => ?_)
            · skip
              have n68 : (sg.1 4) ≤ k := (nI_leI (a := sg.1 4) (b := k) (by omega) (by omega)).mp c68
              refine lv_iload hx hb dX4_film_122 (lv_at hl 3 rfl) ?_
              exact W.iret (v := nI (cnt (sdb (wn.2 7) (wn.2 8) (wn.2 4 a1)) (sg.1 4))) hx hb hr (fun t ht hW => ⟨⟨nI (cnt (sdb (wn.2 7) (wn.2 8) (wn.2 4 a1)) (sg.1 4)), (x, wn, wa, w0, w1, rd, wr, z, jk, lt), rfl, ⟨by rw [filZ, if_pos (inR_t ha1 (by omega)), vN_n (j := a1) (by omega), if_pos hE, vN_n (j := 3) (by omega), vN_n (j := ji40) (by omega)]; exact RepX.zn hRX (ShX_fil hRX.2.2.2.2.2.2.2.2 (fun a9 q => (hss a9 q).trans (by rw [show k = sg.1 4 by omega, hct]))), by rw [filA, if_pos (inR_t ha1 (by omega)), vN_n (j := a1) (by omega), if_pos hE, hct]⟩, show PP G (xw G h x wn wa w0 w1 rd wr z jk lt) t.heap by rw [ht]; exact hP⟩, hS.F ht⟩) hS.2.2 dX4_film_124
            · skip
              have n68 : ¬ ((sg.1 4) ≤ k) := fun q9 => c68 ((nI_leI (a := sg.1 4) (b := k) (by omega) (by omega)).mpr q9)
              refine lv_aload_n hx hb dX4_film_71 rfl (lv_at hl 0 rfl) ?_
              refine va_get (D := gD G) (ci := 4) (v := .ref (h 10)) (C := RX4) (T := TX4) (N := 9) hx hb hts hiX4 hown hK hP 0 (xp_0 _ _ _ _ _ _ _ _ _ _ _ _) rfl 0 (by decide) k10 (fun _ h9 => h9) rfl dX4_film_72 ?_
              refine lv_iload hx hb dX4_film_75 (lv_at hl 5 rfl) ?_
              refine lv_aload_n hx hb dX4_film_77 rfl (lv_at hl 0 rfl) ?_
              refine va_get (D := gD G) (ci := 4) (v := .ref (h 10)) (C := RX4) (T := TX4) (N := 9) hx hb hts hiX4 hown hK hP 0 (xp_0 _ _ _ _ _ _ _ _ _ _ _ _) rfl 0 (by decide) k10 (fun _ h9 => h9) rfl dX4_film_78 ?_
              refine va_getN (D := gD G) (ci := 3) (v := .ref (h 14)) (C := RX3) (T := TX3) (N := 9) hx hb hts hiX3 hown hK hP 3 (xp_3 _ _ _ _ _ _ _ _ _ _ _ _) rfl 4 (by decide) k115 (fun _ h9 => h9) rfl dX4_film_81 ?_
              refine lv_iload_n hx hb dX4_film_84 rfl (lv_at hl 1 rfl) ?_
              refine ialdN (f := wn.2 4) (n := 24) (k := a1) hx hb hK hP 7 (xp_7 _ _ _ _ _ _ _ _ _ _ _ _) rfl (by omega) dX4_film_85 ?_
              refine cRi (w := wv G (fun k => h (10 + k)) wn) (As := [.int (nI k), .int ((wn.2 4) a1)]) (rest := []) ⟨hx, hb, hml, hown, hts⟩ (mt_X3_stands l G (fun k => h (10 + k)) wn k ((wn.2 4) a1) (by first | assumption | omega)) (cwV 2 hts gX4_film_X3_stands rfl rfl rfl ⟨rfl, hd_X3_stands⟩ ⟨Nat.le_of_ble_eq_true rfl, Nat.le_of_ble_eq_true rfl⟩) hK hN (hP.sub [3, 4, 5, 6, 7, 8, 9, 10] (xf_now _ _ _ _ _ _ _ _ _ _ _ _)) 0 3 rfl rfl rfl hl.1 rfl (Nat.le_of_ble_eq_true rfl) ⟨Nat.zero_le _, Nat.zero_le _⟩ dX4_film_86 (fun r86 hw86 => ?_)
              rcases hw86 with ⟨rfl, hy86⟩ | ⟨rfl, hn86⟩
              · skip
                refine lv_if_eq (tgt := 116) hx hb dX4_film_89 (by decide) (fun c9 => absurd c9 (by decide)) (fun _ => ?_)
                have hm89 := cnt_mono (sdb (wn.2 7) (wn.2 8) (wn.2 4 a1)) (a := k + 1) (b := sg.1 4) (by omega)
                rw [cnt_t (by assumption)] at hm89
                refine lv_aload_n hx hb dX4_film_92 rfl (lv_at hl 0 rfl) ?_
                refine va_get (D := gD G) (ci := 4) (v := .ref (h 70)) (C := RX4) (T := TX4) (N := 9) hx hb hts hiX4 hown hK hP 0 (xp_0 _ _ _ _ _ _ _ _ _ _ _ _) rfl 5 (by decide) k37 (fun _ h9 => h9) rfl dX4_film_93 ?_
                refine va_getN (D := gD G) (ci := 2) (v := .ref (h 71)) (C := RX2) (T := TX2) (N := 2) hx hb hts hiX2 hown hK hP 47 (xp_47 _ _ _ _ _ _ _ _ _ _ _ _) rfl 0 (by decide) k229 (fun _ h9 => h9) rfl dX4_film_96 ?_
                refine lv_iload_n hx hb dX4_film_99 rfl (lv_at hl 2 rfl) ?_
                refine aaldJ (f := fun i => some (h (70 + (3 + i)))) (n := 4) (k := 3) (b := h 76) hx hb hK hP 48 (xp_48 _ _ _ _ _ _ _ _ _ _ _ _) rfl (by decide) rfl dX4_film_100 ?_
                refine lv_iload hx hb dX4_film_101 (lv_at hl 4 rfl) ?_
                refine lv_aload_n hx hb dX4_film_103 rfl (lv_at hl 0 rfl) ?_
                refine va_get (D := gD G) (ci := 4) (v := .ref (h 10)) (C := RX4) (T := TX4) (N := 9) hx hb hts hiX4 hown hK hP 0 (xp_0 _ _ _ _ _ _ _ _ _ _ _ _) rfl 0 (by decide) k10 (fun _ h9 => h9) rfl dX4_film_104 ?_
                refine lv_iload hx hb dX4_film_107 (lv_at hl 5 rfl) ?_
                refine cRl (w := wv G (fun k => h (10 + k)) wn) (As := [.int (nI k)]) (rest := [.int (nI pp), .ref (h 76)]) ⟨hx, hb, hml, hown, hts⟩ (mt_X3_pictureOfF l G (fun k => h (10 + k)) wn (sg.1 0) k (hC.1) (by first | assumption | omega) (by first | assumption | omega)) (cwV 1 hts gX4_film_X3_pictureOf rfl rfl rfl ⟨rfl, hd_X3_pictureOf⟩ ⟨Nat.le_of_ble_eq_true rfl, Nat.le_of_ble_eq_true rfl⟩) hK hN (hP.sub [3, 4, 5, 6, 7, 8, 9, 10] (xf_now _ _ _ _ _ _ _ _ _ _ _ _)) 0 3 rfl rfl rfl hl.1 rfl (Nat.le_of_ble_eq_true rfl) ⟨Nat.zero_le _, Nat.zero_le _⟩ dX4_film_109 (fun r109 hw109 => ?_)
                obtain rfl := hw109
                refine lastN (f := jk 3) (n := 40) (k := pp) hx hb hK hP hD hS 53 (xp_53 _ _ _ _ _ _ _ _ _ _ _ _) rfl (by omega) dX4_film_112 (fun H locs hP hD hS => ?_)
                rw [xs_53] at hP hD
                have hP : PP G (xw G h x wn wa w0 w1 rd wr z (va_up jk 3 (vp_updL (jk 3) pp ((wn.2 6 k).toInt64 + 256 * (wn.2 7 k).toInt64 + 65536 * (lifF (fun v => sdb (wn.2 7) (wn.2 8) (wn.2 4 v) k) (sg.1 0)).toInt64))) lt) H := hP
                have hD : va_D A (xw G h x wn wa w0 w1 rd wr z (va_up jk 3 (vp_updL (jk 3) pp ((wn.2 6 k).toInt64 + 256 * (wn.2 7 k).toInt64 + 65536 * (lifF (fun v => sdb (wn.2 7) (wn.2 8) (wn.2 4 v) k) (sg.1 0)).toInt64))) lt) := hD
                refine lv_iinc (v := nI (pp + 1)) (lv' := [(6, .int (nI (pp + 1))), (0, .ref (h 0)), (1, .int (nI a1)), (2, .int (nI 3)), (4, .int (nI (cnt (sdb (wn.2 7) (wn.2 8) (wn.2 4 a1)) (sg.1 4)))), (7, .int (nI k))]) hx hb dX4_film_113 hl (k := 4) rfl (nI_1 pp) (by decide) rfl (fun ls hl => ?_)
                refine lv_iinc (v := nI (k + 1)) (lv' := [(7, .int (nI (k + 1))), (6, .int (nI (pp + 1))), (0, .ref (h 0)), (1, .int (nI a1)), (2, .int (nI 3)), (4, .int (nI (cnt (sdb (wn.2 7) (wn.2 8) (wn.2 4 a1)) (sg.1 4))))]) hx hb dX4_film_116 hl (k := 5) rfl (nI_1 k) (by decide) rfl (fun ls hl => ?_)
                refine lv_goto (tgt := 59) hx hb dX4_film_119 (by decide) ?_
                exact ih59 (k + 1) (pp + 1) (va_up jk 3 (vp_updL (jk 3) pp ((wn.2 6 k).toInt64 + 256 * (wn.2 7 k).toInt64 + 65536 * (lifF (fun v => sdb (wn.2 7) (wn.2 8) (wn.2 4 v) k) (sg.1 0)).toInt64))) (by first | assumption | omega) (by first | rfl | omega | (rw [cnt_t (by assumption)]; omega) | (rw [cnt_f (by assumption)]; omega)) (filX_t (P := (fun n => picS sg (fndN (sdS sg (cvS sg a1)) (sg.1 4) n))) hp (cnt_t (by assumption)) hss (show _ = picS sg (fndN (sdS sg (cvS sg a1)) (sg.1 4) (cnt (sdb (wn.2 7) (wn.2 8) (wn.2 4 a1)) k)) from by rw [hC.fv (v := a1) (i := k) (by omega) (by omega) (by assumption) rfl]; exact picX hC (by omega) (by omega))) (by omega) _ _ ls hP hD hS (lv_sub hl [2, 3, 4, 5, 1, 0] rfl)
              · skip
                refine lv_if_eq (tgt := 116) hx hb dX4_film_89 (by decide) (fun _ => ?_) (fun c9 => absurd (by decide) c9)
                refine lv_iinc (v := nI (k + 1)) (lv' := [(7, .int (nI (k + 1))), (0, .ref (h 0)), (1, .int (nI a1)), (2, .int (nI 3)), (4, .int (nI (cnt (sdb (wn.2 7) (wn.2 8) (wn.2 4 a1)) (sg.1 4)))), (6, .int (nI pp))]) hx hb dX4_film_116 hl (k := 5) rfl (nI_1 k) (by decide) rfl (fun ls hl => ?_)
                refine lv_goto (tgt := 59) hx hb dX4_film_119 (by decide) ?_
                exact ih59 (k + 1) pp jk (by first | assumption | omega) (by first | rfl | omega | (rw [cnt_t (by assumption)]; omega) | (rw [cnt_f (by assumption)]; omega)) ((fun a9 q => (hss a9 q).trans (by rw [cnt_f (by assumption)]))) (by omega) _ _ ls hP hD hS (lv_sub hl [1, 2, 3, 4, 5, 0] rfl)
        exact LP59 (sg.1 4 - 0 + 1) 0 ji40 jj (by first | assumption | omega) (by first | rfl | omega | (rw [cnt_t (by assumption)]; omega) | (rw [cnt_f (by assumption)]; omega)) (fun a9 q => by rw [if_neg (fun q9 => by have := q9.2; simp only [cnt] at this; omega)]) (Nat.lt_succ_self _) _ _ ls hP hD hS (lv_sub hl [4, 5, 6, 3, 1, 0] rfl)
    · skip
      have hE : refS sg s1 i1 (cnt (sdb (wn.2 7) (wn.2 8) (wn.2 4 a1)) (sg.1 4)) = aUNK := ref_unk hnu40
      have hct : cnt (sdb (wn.2 7) (wn.2 8) (wn.2 4 a1)) (sg.1 4) = nlS sg (cvS sg a1) := by rw [hC.c4 (v := a1) (by omega)]; exact hC.nl _
      rw [hct] at hE
      refine lv_istore (lv' := [(5, .int (-1000000001 : Int32)), (4, .int (nI (cnt (sdb (wn.2 7) (wn.2 8) ((wn.2 4) a1)) (sg.1 4)))), (0, .ref (h 0)), (1, .int (nI a1)), (2, .int s1), (3, .int i1)]) hx hb dX4_film_43 hl (by decide) rfl (fun ls hl => ?_)
      refine lv_iload hx hb dX4_film_45 (lv_at hl 0 rfl) ?_
      refine lv_if_eq (tgt := 53) hx hb dX4_film_47 (by decide) (fun c9 => absurd c9 (by decide)) (fun _ => ?_)
      refine lv_iload hx hb dX4_film_50 (lv_at hl 0 rfl) ?_
      exact W.iret (v := (-1000000001 : Int32)) hx hb hr (fun t ht hW => ⟨⟨(-1000000001 : Int32), (x, wn, wa, w0, w1, rd, wr, z, jj, lt), rfl, ⟨by rw [filZ, if_pos (inR_t ha1 (by omega)), vN_n (j := a1) (by omega), if_neg (show ¬ refS sg s1 i1 (nlS sg (cvS sg a1)) = 0 from by rw [hE]; decide)]; exact hRX, by rw [filA, if_pos (inR_t ha1 (by omega)), vN_n (j := a1) (by omega), if_neg (show ¬ refS sg s1 i1 (nlS sg (cvS sg a1)) = 0 from by rw [hE]; decide), hE]⟩, show PP G (xw G h x wn wa w0 w1 rd wr z jj lt) t.heap by rw [ht]; exact hP⟩, hS.F ht⟩) hS.2.2 dX4_film_52
    · skip
      have hE : refS sg s1 i1 (cnt (sdb (wn.2 7) (wn.2 8) (wn.2 4 a1)) (sg.1 4)) = aNULL := by rw [ejs40]; exact ref_nul hjs40 (ShX.no hRX.2.2.2.2.2.2.2.2 hIS hjs40 eq40)
      have hct : cnt (sdb (wn.2 7) (wn.2 8) (wn.2 4 a1)) (sg.1 4) = nlS sg (cvS sg a1) := by rw [hC.c4 (v := a1) (by omega)]; exact hC.nl _
      rw [hct] at hE
      refine lv_istore (lv' := [(5, .int (-1000000011 : Int32)), (4, .int (nI (cnt (sdb (wn.2 7) (wn.2 8) ((wn.2 4) a1)) (sg.1 4)))), (0, .ref (h 0)), (1, .int (nI a1)), (2, .int s1), (3, .int i1)]) hx hb dX4_film_43 hl (by decide) rfl (fun ls hl => ?_)
      refine lv_iload hx hb dX4_film_45 (lv_at hl 0 rfl) ?_
      refine lv_if_eq (tgt := 53) hx hb dX4_film_47 (by decide) (fun c9 => absurd c9 (by decide)) (fun _ => ?_)
      refine lv_iload hx hb dX4_film_50 (lv_at hl 0 rfl) ?_
      exact W.iret (v := (-1000000011 : Int32)) hx hb hr (fun t ht hW => ⟨⟨(-1000000011 : Int32), (x, wn, wa, w0, w1, rd, wr, z, jj, lt), rfl, ⟨by rw [filZ, if_pos (inR_t ha1 (by omega)), vN_n (j := a1) (by omega), if_neg (show ¬ refS sg s1 i1 (nlS sg (cvS sg a1)) = 0 from by rw [hE]; decide)]; exact hRX, by rw [filA, if_pos (inR_t ha1 (by omega)), vN_n (j := a1) (by omega), if_neg (show ¬ refS sg s1 i1 (nlS sg (cvS sg a1)) = 0 from by rw [hE]; decide), hE]⟩, show PP G (xw G h x wn wa w0 w1 rd wr z jj lt) t.heap by rw [ht]; exact hP⟩, hS.F ht⟩) hS.2.2 dX4_film_52
    · skip
      have hE : refS sg s1 i1 (cnt (sdb (wn.2 7) (wn.2 8) (wn.2 4 a1)) (sg.1 4)) = aPLC := by rw [ejs40]; exact ref_plc hjs40 (ShX.sz hRX.2.2.2.2.2.2.2.2 hIS hjs40 hq40 eq40).1 (fun ⟨ji, e1, e2⟩ => hpl40 ⟨ji, cnt (sdb (wn.2 7) (wn.2 8) (wn.2 4 a1)) (sg.1 4), e1, rfl, e2⟩)
      have hct : cnt (sdb (wn.2 7) (wn.2 8) (wn.2 4 a1)) (sg.1 4) = nlS sg (cvS sg a1) := by rw [hC.c4 (v := a1) (by omega)]; exact hC.nl _
      rw [hct] at hE
      refine lv_istore (lv' := [(5, .int (-1000000012 : Int32)), (4, .int (nI (cnt (sdb (wn.2 7) (wn.2 8) ((wn.2 4) a1)) (sg.1 4)))), (0, .ref (h 0)), (1, .int (nI a1)), (2, .int s1), (3, .int i1)]) hx hb dX4_film_43 hl (by decide) rfl (fun ls hl => ?_)
      refine lv_iload hx hb dX4_film_45 (lv_at hl 0 rfl) ?_
      refine lv_if_eq (tgt := 53) hx hb dX4_film_47 (by decide) (fun c9 => absurd c9 (by decide)) (fun _ => ?_)
      refine lv_iload hx hb dX4_film_50 (lv_at hl 0 rfl) ?_
      exact W.iret (v := (-1000000012 : Int32)) hx hb hr (fun t ht hW => ⟨⟨(-1000000012 : Int32), (x, wn, wa, w0, w1, rd, wr, z, jj, lt), rfl, ⟨by rw [filZ, if_pos (inR_t ha1 (by omega)), vN_n (j := a1) (by omega), if_neg (show ¬ refS sg s1 i1 (nlS sg (cvS sg a1)) = 0 from by rw [hE]; decide)]; exact hRX, by rw [filA, if_pos (inR_t ha1 (by omega)), vN_n (j := a1) (by omega), if_neg (show ¬ refS sg s1 i1 (nlS sg (cvS sg a1)) = 0 from by rw [hE]; decide), hE]⟩, show PP G (xw G h x wn wa w0 w1 rd wr z jj lt) t.heap by rw [ht]; exact hP⟩, hS.F ht⟩) hS.2.2 dX4_film_52
  · skip
    refine lv_if_ne (tgt := 14) hx hb dX4_film_8 (by decide) (fun c9 => absurd (by decide) c9) (fun _ => ?_)
    refine lv_ldc (v := (-1000000001 : Int32)) hx hb hown (hts (.constant RX4 110 (-1000000001)) (List.mem_of_getElem? (i := 2) rfl)) dX4_film_11 ?_
    exact W.iret (v := (-1000000001 : Int32)) hx hb hr (fun t ht hW => ⟨⟨(-1000000001 : Int32), (x, wn, wa, w0, w1, rd, wr, z, jj, lt), rfl, ⟨by rw [filZ, if_neg (inR_f (by omega) hna1)]; exact hRX, by rw [filA, if_neg (inR_f (by omega) hna1)]⟩, show PP G (xw G h x wn wa w0 w1 rd wr z jj lt) t.heap by rw [ht]; exact hP⟩, hS.F ht⟩) hS.2.2 dX4_film_13
set_option maxHeartbeats 1000000 in
set_option maxRecDepth 100000 in
theorem mt_X4_isFilmS (l : Launch) (G : gG) (h : Nat → Nat) (x : oS) (wn : oS) (wa : oS) (w0 : oS) (w1 : oS) (rd : oS) (wr : oS) (z : oS) (jj : Nat → Nat → Int64) (lt : Int64) (sg : pS) (zz : Nat → Nat → Int64) (a : Int32) (s1 : Int32) (i1 : Int32) (n1 : Int32) (hIS : IS sg) (hRX : RepX x wn wa w0 w1 rd z jj sg zz) : Met l yX4_isFilm wsX4_isFilm ({ frames := 3, cells := 0, slots := 0, locals := 67 }) (preR G (xw G h x wn wa w0 w1 rd wr z jj lt) [.ref (h 0), .int a, .int s1, .int i1, .int n1]) (vp_Si (fun r : Int32 => r = isfA sg zz a s1 i1 n1)) 0 0 (fun _ => False) := by
  refine Met.ofW (cc := cX4_isFilm) (maxL := 8) (ret := (some .int)) (by decide) rfl ?_
  intro p e s m args below meth c s₁ B hml hv
  obtain ⟨ha, hP, hK, hN⟩ := hv
  subst ha
  have hx := B.exec
  have hb := B.bytes
  have hr := B.returns
  have hts := atoms_spec (ws := wsX4_isFilm) B.pre
  have hown : s.vm.findClass RX4 = some m.cls := findClass_of_methodNamed B.named
  have hlocks := B.notSynchronized
  have hiX4 : ∀ w ∈ wsX40, w ∈ wsX4_isFilm := fun w h9 => List.mem_cons_of_mem _ (List.mem_append_left _ (List.mem_append_left _ (List.mem_append_right _ (h9))))
  have k10 := hts (.fieldLink RX4 10 "WovenHistory" "now" "LWovenHistory$Weave;") (List.mem_of_getElem? (i := 1) rfl)
  have k37 := hts (.fieldLink RX4 37 "WovenHistory" "sheets" "LWovenHistory$Sheets;") (List.mem_of_getElem? (i := 2) rfl)
  have hiX3 : ∀ w ∈ wsX30, w ∈ wsX4_isFilm := fun w h9 => List.mem_cons_of_mem _ (List.mem_append_left _ (List.mem_append_right _ (h9)))
  have k115 : (Cond.fieldLinkNest "WovenHistory" 115 "WovenHistory$Weave" "changes" "[I" "WovenHistory").before _ s = true := va_Nw.use (A := ([.ref (h 0), .int a, .int s1, .int i1, .int n1] : List Value).toArray) rfl (hN.1 ("WovenHistory", 115, "WovenHistory$Weave", "changes", "[I") (List.mem_of_getElem? (i := 1) rfl))
  have k85 : (Cond.fieldLinkNest "WovenHistory" 85 "WovenHistory$Weave" "lines" "I" "WovenHistory").before _ s = true := va_Nw.use (A := ([.ref (h 0), .int a, .int s1, .int i1, .int n1] : List Value).toArray) rfl (hN.1 ("WovenHistory", 85, "WovenHistory$Weave", "lines", "I") (List.mem_of_getElem? (i := 13) rfl))
  have hiX2 : ∀ w ∈ wsX20, w ∈ wsX4_isFilm := fun w h9 => List.mem_cons_of_mem _ (List.mem_append_right _ (h9))
  have k229 : (Cond.fieldLinkNest "WovenHistory" 229 "WovenHistory$Sheets" "numbers" "[[J" "WovenHistory").before _ s = true := va_Nw.use (A := ([.ref (h 0), .int a, .int s1, .int i1, .int n1] : List Value).toArray) rfl (hN.1 ("WovenHistory", 229, "WovenHistory$Sheets", "numbers", "[[J") (List.mem_of_getElem? (i := 7) rfl))
  have k136 : (Cond.fieldLinkNest "WovenHistory" 136 "WovenHistory$Weave" "sign" "[I" "WovenHistory").before _ s = true := va_Nw.use (A := ([.ref (h 0), .int a, .int s1, .int i1, .int n1] : List Value).toArray) rfl (hN.1 ("WovenHistory", 136, "WovenHistory$Weave", "sign", "[I") (List.mem_of_getElem? (i := 4) rfl))
  have hl := lv_entry ([.ref (h 0), .int a, .int s1, .int i1, .int n1]) (n := 8) (Nat.le_of_ble_eq_true rfl)
  rw [lg_entry_eq]
  generalize (lg_sl ([.ref (h 0), .int a, .int s1, .int i1, .int n1]) ++ List.replicate (8 - (lg_sl ([.ref (h 0), .int a, .int s1, .int i1, .int n1])).length) Slot.unset).toArray = ls at hl ⊢
  have hl : lv_has ls 8 [(0, .ref (h 0)), (1, .int a), (2, .int s1), (3, .int i1), (4, .int n1)] := hl
  have hC := hRX.1
  have hic := hIS.ic
  have hv24 := hIS.1
  have hl120 := hIS.2.1
  have ho1 := hIS.2.2.1
  refine lv_aload_n hx hb dX4_isFilm_0 rfl (lv_at hl 0 rfl) ?_
  refine va_get (D := gD G) (ci := 4) (v := .ref (h 10)) (C := RX4) (T := TX4) (N := 9) hx hb hts hiX4 hown hK hP 0 (xp_0 _ _ _ _ _ _ _ _ _ _ _ _) rfl 0 (by decide) k10 (fun _ h9 => h9) rfl dX4_isFilm_1 ?_
  refine lv_iload_n hx hb dX4_isFilm_4 rfl (lv_at hl 1 rfl) ?_
  refine cRi (w := wv G (fun k => h (10 + k)) wn) (As := [.int a]) (rest := []) ⟨hx, hb, hml, hown, hts⟩ (mt_X3_hasVersion l G (fun k => h (10 + k)) wn (sg.1 0) a (hC.1) (by first | assumption | omega)) (cwV 1 hts gX4_isFilm_X3_hasVersion rfl rfl rfl ⟨rfl, hd_X3_hasVersion⟩ ⟨Nat.le_of_ble_eq_true rfl, Nat.le_of_ble_eq_true rfl⟩) hK hN (hP.sub [3, 4, 5, 6, 7, 8, 9, 10] (xf_now _ _ _ _ _ _ _ _ _ _ _ _)) 0 3 rfl rfl rfl hl.1 rfl (Nat.le_of_ble_eq_true rfl) ⟨Nat.zero_le _, Nat.zero_le _⟩ dX4_isFilm_5 (fun r5 hw5 => ?_)
  rcases hw5 with ⟨rfl, a1, ha1, rfl⟩ | ⟨rfl, hna1⟩
  · skip
    refine lv_if_eq (tgt := 22) hx hb dX4_isFilm_8 (by decide) (fun c9 => absurd c9 (by decide)) (fun _ => ?_)
    refine lv_aload_n hx hb dX4_isFilm_11 rfl (lv_at hl 0 rfl) ?_
    refine va_get (D := gD G) (ci := 4) (v := .ref (h 70)) (C := RX4) (T := TX4) (N := 9) hx hb hts hiX4 hown hK hP 0 (xp_0 _ _ _ _ _ _ _ _ _ _ _ _) rfl 5 (by decide) k37 (fun _ h9 => h9) rfl dX4_isFilm_12 ?_
    refine lv_iload_n hx hb dX4_isFilm_15 rfl (lv_at hl 2 rfl) ?_
    refine cRi (w := sv G (fun k => h (70 + k)) z jj) (As := [.int s1]) (rest := []) ⟨hx, hb, hml, hown, hts⟩ (mt_X2_hasNumber l G (fun k => h (70 + k)) z jj s1) (cwV 1 hts gX4_isFilm_X2_hasNumber rfl rfl rfl ⟨rfl, hd_X2_hasNumber⟩ ⟨Nat.le_of_ble_eq_true rfl, Nat.le_of_ble_eq_true rfl⟩) hK hN (hP.sub [47, 48, 49, 50, 51, 52, 53] (xf_z _ _ _ _ _ _ _ _ _ _ _ _)) 0 2 rfl rfl rfl hl.1 rfl (Nat.le_of_ble_eq_true rfl) ⟨Nat.zero_le _, Nat.zero_le _⟩ dX4_isFilm_16 (fun r16 hw16 => ?_)
    rcases hw16 with ⟨rfl, j16, hj16, ej16⟩ | ⟨rfl, hn16⟩
    · skip
      refine lv_if_ne (tgt := 25) hx hb dX4_isFilm_19 (by decide) (fun _ => ?_) (fun c9 => absurd c9 (by decide))
      refine lv_iload hx hb dX4_isFilm_25 (lv_at hl 4 rfl) ?_
      refine lv_if_ge (tgt := 33) hx hb dX4_isFilm_27 (by decide) (fun c27 => ?_) (fun c27 => ?_)
      · skip
        obtain ⟨n27, hn27, en27⟩ := nI_of1 (fun q => absurd c27 (Int32.not_le.mpr q))
        refine lv_aload_n hx hb dX4_isFilm_33 rfl (lv_at hl 0 rfl) ?_
        refine va_get (D := gD G) (ci := 4) (v := .ref (h 70)) (C := RX4) (T := TX4) (N := 9) hx hb hts hiX4 hown hK hP 0 (xp_0 _ _ _ _ _ _ _ _ _ _ _ _) rfl 5 (by decide) k37 (fun _ h9 => h9) rfl dX4_isFilm_34 ?_
        refine lv_iload_n hx hb dX4_isFilm_37 rfl (lv_at hl 2 rfl) ?_
        refine lv_iload_n hx hb dX4_isFilm_38 rfl (lv_at hl 3 rfl) ?_
        refine lv_iload hx hb dX4_isFilm_39 (lv_at hl 4 rfl) ?_
        refine cRi (w := sv G (fun k => h (70 + k)) z jj) (As := [.int s1, .int i1, .int n1]) (rest := []) ⟨hx, hb, hml, hown, hts⟩ (mt_X2_findWrong l G (fun k => h (70 + k)) z jj s1 i1 n1 ((ShX.s4 hRX.2.2.2.2.2.2.2.2 hIS))) (cwV 3 hts gX4_isFilm_X2_findWrong rfl rfl rfl ⟨rfl, hd_X2_findWrong⟩ ⟨Nat.le_of_ble_eq_true rfl, Nat.le_of_ble_eq_true rfl⟩) hK hN (hP.sub [47, 48, 49, 50, 51, 52, 53] (xf_z _ _ _ _ _ _ _ _ _ _ _ _)) 0 2 rfl rfl rfl hl.1 rfl (Nat.le_of_ble_eq_true rfl) ⟨Nat.zero_le _, Nat.zero_le _⟩ dX4_isFilm_41 (fun r41 hw41 => ?_)
        rcases hw41 with ⟨rfl, js41, ji41, nn41, q41, hjs41, rfl, hq41, eq41, rfl, rfl, hs41⟩ | ⟨rfl, hnu41⟩ | ⟨rfl, js41, hjs41, ejs41, eq41⟩ | ⟨rfl, js41, q41, hjs41, ejs41, hq41, eq41, hpl41⟩
        · skip
          obtain ⟨hzs, hzv⟩ := ShX.sz hRX.2.2.2.2.2.2.2.2 hIS hjs41 hq41 eq41
          have hE : refS sg (nI js41) (nI ji41) (nn41) = 0 := ref_ok hjs41 hzs hq41 (by omega)
          refine lv_istore (lv' := [(5, .int (0 : Int32)), (0, .ref (h 0)), (1, .int (nI a1)), (2, .int (nI js41)), (3, .int (nI ji41)), (4, .int (nI nn41))]) hx hb dX4_isFilm_44 hl (by decide) rfl (fun ls hl => ?_)
          refine lv_iload hx hb dX4_isFilm_46 (lv_at hl 0 rfl) ?_
          refine lv_if_eq (tgt := 54) hx hb dX4_isFilm_48 (by decide) (fun _ => ?_) (fun c9 => absurd (by decide) c9)
          refine lv_iload hx hb dX4_isFilm_54 (lv_at hl 5 rfl) ?_
          refine lv_aload_n hx hb dX4_isFilm_56 rfl (lv_at hl 1 rfl) ?_
          refine va_get (D := gD G) (ci := 4) (v := .ref (h 10)) (C := RX4) (T := TX4) (N := 9) hx hb hts hiX4 hown hK hP 0 (xp_0 _ _ _ _ _ _ _ _ _ _ _ _) rfl 0 (by decide) k10 (fun _ h9 => h9) rfl dX4_isFilm_57 ?_
          refine lv_aload_n hx hb dX4_isFilm_60 rfl (lv_at hl 1 rfl) ?_
          refine va_get (D := gD G) (ci := 4) (v := .ref (h 10)) (C := RX4) (T := TX4) (N := 9) hx hb hts hiX4 hown hK hP 0 (xp_0 _ _ _ _ _ _ _ _ _ _ _ _) rfl 0 (by decide) k10 (fun _ h9 => h9) rfl dX4_isFilm_61 ?_
          refine va_getN (D := gD G) (ci := 3) (v := .ref (h 14)) (C := RX3) (T := TX3) (N := 9) hx hb hts hiX3 hown hK hP 3 (xp_3 _ _ _ _ _ _ _ _ _ _ _ _) rfl 4 (by decide) k115 (fun _ h9 => h9) rfl dX4_isFilm_64 ?_
          refine lv_iload_n hx hb dX4_isFilm_67 rfl (lv_at hl 2 rfl) ?_
          refine ialdN (f := wn.2 4) (n := 24) (k := a1) hx hb hK hP 7 (xp_7 _ _ _ _ _ _ _ _ _ _ _ _) rfl (by omega) dX4_isFilm_68 ?_
          refine cRi (w := wv G (fun k => h (10 + k)) wn) (As := [.int ((wn.2 4) a1)]) (rest := [.int (nI nn41)]) ⟨hx, hb, hml, hown, hts⟩ (mt_X3_countStanding l G (fun k => h (10 + k)) wn (sg.1 4) ((wn.2 4) a1) (hC.2.1) (by first | assumption | omega)) (cwV 1 hts gX4_isFilm_X3_countStanding rfl rfl rfl ⟨rfl, hd_X3_countStanding⟩ ⟨Nat.le_of_ble_eq_true rfl, Nat.le_of_ble_eq_true rfl⟩) hK hN (hP.sub [3, 4, 5, 6, 7, 8, 9, 10] (xf_now _ _ _ _ _ _ _ _ _ _ _ _)) 0 3 rfl rfl rfl hl.1 rfl (Nat.le_of_ble_eq_true rfl) ⟨Nat.zero_le _, Nat.zero_le _⟩ dX4_isFilm_69 (fun r69 hw69 => ?_)
          obtain rfl := hw69
          have hc69 := cnt_le (sdb (wn.2 7) (wn.2 8) ((wn.2 4) a1)) (sg.1 4)
          have hct : cnt (sdb (wn.2 7) (wn.2 8) (wn.2 4 a1)) (sg.1 4) = nlS sg (cvS sg a1) := by rw [hC.c4 (v := a1) (by omega)]; exact hC.nl _
          refine lv_icmp_eq (tgt := 77) hx hb dX4_isFilm_72 (by decide) (fun c72 => ?_) (fun c72 => ?_)
          · skip
            have n72 : nn41 = (cnt (sdb (wn.2 7) (wn.2 8) ((wn.2 4) a1)) (sg.1 4)) := (nI_eq (a := nn41) (b := cnt (sdb (wn.2 7) (wn.2 8) ((wn.2 4) a1)) (sg.1 4)) (by omega) (by omega)).mp c72
            rcases (show js41 = 0 ∨ js41 = 1 ∨ js41 = 2 ∨ js41 = 3 by omega) with rfl | rfl | rfl | rfl
            · skip
              refine lv_iload_n hx hb dX4_isFilm_77 rfl (lv_at hl 4 rfl) ?_
              refine lv_istore (lv' := [(6, .int (nI ji41)), (5, .int (0 : Int32)), (0, .ref (h 0)), (1, .int (nI a1)), (2, .int (nI 0)), (3, .int (nI ji41)), (4, .int (nI nn41))]) hx hb dX4_isFilm_78 hl (by decide) rfl (fun ls hl => ?_)
              refine lv_iconst (v := nI 0) hx hb dX4_isFilm_80 (by decide) ?_
              refine lv_istore (lv' := [(7, .int (nI 0)), (6, .int (nI ji41)), (5, .int (0 : Int32)), (0, .ref (h 0)), (1, .int (nI a1)), (2, .int (nI 0)), (3, .int (nI ji41)), (4, .int (nI nn41))]) hx hb dX4_isFilm_81 hl (by decide) rfl (fun ls hl => ?_)
              have LP83 : ∀ (n83m : Nat), ∀ (k : Nat) (pp : Nat) (hk : k ≤ sg.1 4) (hp : pp = ji41 + cnt (sdb (wn.2 7) (wn.2 8) (wn.2 4 a1)) k) (hal : ∀ q, q < cnt (sdb (wn.2 7) (wn.2 8) (wn.2 4 a1)) k → zz 0 (ji41 + q) &&& 255 = (sg.2 5 (fndN (sdS sg (cvS sg a1)) (sg.1 4) q)).toInt64), (sg.1 4 - k < n83m) → ∀ (ls : Array Slot), lv_has ls 8 [(0, .ref (h 0)), (1, .int (nI a1)), (2, .int (nI 0)), (6, .int (nI pp)), (7, .int (nI k))] → W p l e (headSpec wsX4_isFilm ({ frames := 3, cells := 0, slots := 0, locals := 67 })).room s m ([.ref (h 0), .int (nI a1), .int (nI 0), .int (nI ji41), .int (nI nn41)] : List Value).toArray below meth c s.heap [] 0 0 (MQ below (vp_Si (fun r : Int32 => r = isfA sg zz (nI a1) (nI 0) (nI ji41) (nI nn41))) ([.ref (h 0), .int (nI a1), .int (nI 0), .int (nI ji41), .int (nI nn41)] : List Value).toArray s 0 0 (fun _ => False)) (F0 m 83 ls []) := by
                intro n83m
                induction n83m with
                | zero => intro k pp hk hp hal hmu ls hl; exact absurd hmu (Nat.not_lt_zero _)
                | succ n83m ih83 =>
                  intro k pp hk hp hal hmu ls hl
                  refine lv_iload hx hb dX4_isFilm_83 (lv_at hl 4 rfl) ?_
                  refine lv_aload_n hx hb dX4_isFilm_85 rfl (lv_at hl 0 rfl) ?_
                  refine va_get (D := gD G) (ci := 4) (v := .ref (h 10)) (C := RX4) (T := TX4) (N := 9) hx hb hts hiX4 hown hK hP 0 (xp_0 _ _ _ _ _ _ _ _ _ _ _ _) rfl 0 (by decide) k10 (fun _ h9 => h9) rfl dX4_isFilm_86 ?_
                  refine va_getN (D := gD G) (ci := 3) (v := .int (wn.1 5)) (C := RX3) (T := TX3) (N := 9) hx hb hts hiX3 hown hK hP 3 (xp_3 _ _ _ _ _ _ _ _ _ _ _ _) rfl 5 (by decide) k85 (fun _ h9 => h9) rfl dX4_isFilm_89 ?_
                  refine topE hC.2.1 ?_
                  refine lv_icmp_ge (tgt := 158) hx hb dX4_isFilm_92 (by decide) (fun c92 => ?_) (fun c92 => ?_)
                  · skip
                    have n92 : (sg.1 4) ≤ k := (nI_leI (a := sg.1 4) (b := k) (by omega) (by omega)).mp c92
                    refine lv_iconst (v := nI 1) hx hb dX4_isFilm_158 (by decide) ?_
                    exact W.iret (v := nI 1) hx hb hr (fun t ht hW => ⟨nI 1, rfl, by rw [isfA, if_pos ⟨inR_t ha1 (by omega), inR_t (j := 0) (by omega) (by omega)⟩, if_neg (nI_pos (by omega)), vN_n (j := nn41) (by omega), if_pos hE, vN_n (j := a1) (by omega), vN_n (j := 0) (by omega), vN_n (j := ji41) (by omega), if_pos (isf_t (hct.symm.trans n72.symm) (fun q h9 => hal q (by rw [show k = sg.1 4 by omega]; omega)))]; rfl, ht⟩) (fun _ h9 => by cases h9) dX4_isFilm_159
                  · skip
                    have n92 : ¬ ((sg.1 4) ≤ k) := fun q9 => c92 ((nI_leI (a := sg.1 4) (b := k) (by omega) (by omega)).mpr q9)
                    refine lv_aload_n hx hb dX4_isFilm_95 rfl (lv_at hl 0 rfl) ?_
                    refine va_get (D := gD G) (ci := 4) (v := .ref (h 10)) (C := RX4) (T := TX4) (N := 9) hx hb hts hiX4 hown hK hP 0 (xp_0 _ _ _ _ _ _ _ _ _ _ _ _) rfl 0 (by decide) k10 (fun _ h9 => h9) rfl dX4_isFilm_96 ?_
                    refine lv_iload hx hb dX4_isFilm_99 (lv_at hl 4 rfl) ?_
                    refine lv_aload_n hx hb dX4_isFilm_101 rfl (lv_at hl 0 rfl) ?_
                    refine va_get (D := gD G) (ci := 4) (v := .ref (h 10)) (C := RX4) (T := TX4) (N := 9) hx hb hts hiX4 hown hK hP 0 (xp_0 _ _ _ _ _ _ _ _ _ _ _ _) rfl 0 (by decide) k10 (fun _ h9 => h9) rfl dX4_isFilm_102 ?_
                    refine va_getN (D := gD G) (ci := 3) (v := .ref (h 14)) (C := RX3) (T := TX3) (N := 9) hx hb hts hiX3 hown hK hP 3 (xp_3 _ _ _ _ _ _ _ _ _ _ _ _) rfl 4 (by decide) k115 (fun _ h9 => h9) rfl dX4_isFilm_105 ?_
                    refine lv_iload_n hx hb dX4_isFilm_108 rfl (lv_at hl 1 rfl) ?_
                    refine ialdN (f := wn.2 4) (n := 24) (k := a1) hx hb hK hP 7 (xp_7 _ _ _ _ _ _ _ _ _ _ _ _) rfl (by omega) dX4_isFilm_109 ?_
                    refine cRi (w := wv G (fun k => h (10 + k)) wn) (As := [.int (nI k), .int ((wn.2 4) a1)]) (rest := []) ⟨hx, hb, hml, hown, hts⟩ (mt_X3_stands l G (fun k => h (10 + k)) wn k ((wn.2 4) a1) (by first | assumption | omega)) (cwV 2 hts gX4_isFilm_X3_stands rfl rfl rfl ⟨rfl, hd_X3_stands⟩ ⟨Nat.le_of_ble_eq_true rfl, Nat.le_of_ble_eq_true rfl⟩) hK hN (hP.sub [3, 4, 5, 6, 7, 8, 9, 10] (xf_now _ _ _ _ _ _ _ _ _ _ _ _)) 0 3 rfl rfl rfl hl.1 rfl (Nat.le_of_ble_eq_true rfl) ⟨Nat.zero_le _, Nat.zero_le _⟩ dX4_isFilm_110 (fun r110 hw110 => ?_)
                    rcases hw110 with ⟨rfl, hy110⟩ | ⟨rfl, hn110⟩
                    · skip
                      refine lv_if_eq (tgt := 152) hx hb dX4_isFilm_113 (by decide) (fun c9 => absurd c9 (by decide)) (fun _ => ?_)
                      have hm113 := cnt_mono (sdb (wn.2 7) (wn.2 8) (wn.2 4 a1)) (a := k + 1) (b := sg.1 4) (by omega)
                      rw [cnt_t (by assumption)] at hm113
                      refine lv_aload_n hx hb dX4_isFilm_116 rfl (lv_at hl 0 rfl) ?_
                      refine va_get (D := gD G) (ci := 4) (v := .ref (h 70)) (C := RX4) (T := TX4) (N := 9) hx hb hts hiX4 hown hK hP 0 (xp_0 _ _ _ _ _ _ _ _ _ _ _ _) rfl 5 (by decide) k37 (fun _ h9 => h9) rfl dX4_isFilm_117 ?_
                      refine va_getN (D := gD G) (ci := 2) (v := .ref (h 71)) (C := RX2) (T := TX2) (N := 2) hx hb hts hiX2 hown hK hP 47 (xp_47 _ _ _ _ _ _ _ _ _ _ _ _) rfl 0 (by decide) k229 (fun _ h9 => h9) rfl dX4_isFilm_120 ?_
                      refine lv_iload_n hx hb dX4_isFilm_123 rfl (lv_at hl 2 rfl) ?_
                      refine aaldJ (f := fun i => some (h (70 + (3 + i)))) (n := 4) (k := 0) (b := h 73) hx hb hK hP 48 (xp_48 _ _ _ _ _ _ _ _ _ _ _ _) rfl (by decide) rfl dX4_isFilm_124 ?_
                      refine lv_iload hx hb dX4_isFilm_125 (lv_at hl 3 rfl) ?_
                      refine laldN (f := jj 0) (n := 40) (k := pp) hx hb hK hP 50 (xp_50 _ _ _ _ _ _ _ _ _ _ _ _) rfl (by omega) dX4_isFilm_127 ?_
                      refine lv_ldc2 (v := 255) hx hb hown (hts (.constantLong RX4 243 (255)) (List.mem_of_getElem? (i := 5) rfl)) dX4_isFilm_128 ?_
                      refine lv_land hx hb dX4_isFilm_131 ?_
                      refine lv_aload_n hx hb dX4_isFilm_132 rfl (lv_at hl 0 rfl) ?_
                      refine va_get (D := gD G) (ci := 4) (v := .ref (h 10)) (C := RX4) (T := TX4) (N := 9) hx hb hts hiX4 hown hK hP 0 (xp_0 _ _ _ _ _ _ _ _ _ _ _ _) rfl 0 (by decide) k10 (fun _ h9 => h9) rfl dX4_isFilm_133 ?_
                      refine va_getN (D := gD G) (ci := 3) (v := .ref (h 16)) (C := RX3) (T := TX3) (N := 9) hx hb hts hiX3 hown hK hP 3 (xp_3 _ _ _ _ _ _ _ _ _ _ _ _) rfl 6 (by decide) k136 (fun _ h9 => h9) rfl dX4_isFilm_136 ?_
                      refine lv_iload hx hb dX4_isFilm_139 (lv_at hl 4 rfl) ?_
                      refine ialdN (f := wn.2 6) (n := 120) (k := k) hx hb hK hP 8 (xp_8 _ _ _ _ _ _ _ _ _ _ _ _) rfl (by omega) dX4_isFilm_141 ?_
                      refine lv_i2l (v := ((wn.2 6) k).toInt64) hx hb dX4_isFilm_142 rfl ?_
                      refine W.lcmp hx hb dX4_isFilm_143 ?_
                      refine lv_if_eq (tgt := 149) hx hb dX4_isFilm_144 (by decide) (fun c144 => ?_) (fun c144 => ?_)
                      · skip
                        have n144 : (((jj 0) pp) &&& 255) = (((wn.2 6) k).toInt64) := (lg_cmp_eq _ _).mp c144
                        refine lv_iinc (v := nI (pp + 1)) (lv' := [(6, .int (nI (pp + 1))), (0, .ref (h 0)), (1, .int (nI a1)), (2, .int (nI 0)), (7, .int (nI k))]) hx hb dX4_isFilm_149 hl (k := 3) rfl (nI_1 pp) (by decide) rfl (fun ls hl => ?_)
                        refine lv_iinc (v := nI (k + 1)) (lv' := [(7, .int (nI (k + 1))), (6, .int (nI (pp + 1))), (0, .ref (h 0)), (1, .int (nI a1)), (2, .int (nI 0))]) hx hb dX4_isFilm_152 hl (k := 4) rfl (nI_1 k) (by decide) rfl (fun ls hl => ?_)
                        refine lv_goto (tgt := 83) hx hb dX4_isFilm_155 (by decide) ?_
                        exact ih83 (k + 1) (pp + 1) (by first | assumption | omega) (by first | rfl | omega | (rw [cnt_t (by assumption)]; omega) | (rw [cnt_f (by assumption)]; omega)) (by first | (intro q h9; rw [cnt_f (by assumption)] at h9; exact hal q h9) | (intro q h9; rw [cnt_t (by assumption)] at h9; by_cases e9 : q = cnt (sdb (wn.2 7) (wn.2 8) (wn.2 4 a1)) k; (rw [e9]; rw [hC.fv (v := a1) (i := k) (by omega) (by omega) (by assumption) rfl, ← hzv (ji41 + cnt (sdb (wn.2 7) (wn.2 8) (wn.2 4 a1)) k) (by omega), ← hp, ← hC.2.2.2.2.2.2.1 k (by omega)]; exact n144); exact hal q (by omega))) (by omega) ls (lv_sub hl [2, 3, 4, 1, 0] rfl)
                      · skip
                        have n144 : ¬ ((((jj 0) pp) &&& 255) = (((wn.2 6) k).toInt64)) := fun q9 => c144 ((lg_cmp_eq _ _).mpr q9)
                        refine lv_iconst (v := nI 0) hx hb dX4_isFilm_147 (by decide) ?_
                        exact W.iret (v := nI 0) hx hb hr (fun t ht hW => ⟨nI 0, rfl, by rw [isfA, if_pos ⟨inR_t ha1 (by omega), inR_t (j := 0) (by omega) (by omega)⟩, if_neg (nI_pos (by omega)), vN_n (j := nn41) (by omega), if_pos hE, vN_n (j := a1) (by omega), vN_n (j := 0) (by omega), vN_n (j := ji41) (by omega), if_neg (by rw [isf_f2 (k := cnt (sdb (wn.2 7) (wn.2 8) (wn.2 4 a1)) k) (by omega) (by rw [hC.fv (v := a1) (i := k) (by omega) (by omega) (by assumption) rfl, ← hzv (ji41 + cnt (sdb (wn.2 7) (wn.2 8) (wn.2 4 a1)) k) (by omega), ← hp, ← hC.2.2.2.2.2.2.1 k (by omega)]; exact n144)]; decide)]; rfl, ht⟩) (fun _ h9 => by cases h9) dX4_isFilm_148
                    · skip
                      refine lv_if_eq (tgt := 152) hx hb dX4_isFilm_113 (by decide) (fun _ => ?_) (fun c9 => absurd (by decide) c9)
                      refine lv_iinc (v := nI (k + 1)) (lv' := [(7, .int (nI (k + 1))), (0, .ref (h 0)), (1, .int (nI a1)), (2, .int (nI 0)), (6, .int (nI pp))]) hx hb dX4_isFilm_152 hl (k := 4) rfl (nI_1 k) (by decide) rfl (fun ls hl => ?_)
                      refine lv_goto (tgt := 83) hx hb dX4_isFilm_155 (by decide) ?_
                      exact ih83 (k + 1) pp (by first | assumption | omega) (by first | rfl | omega | (rw [cnt_t (by assumption)]; omega) | (rw [cnt_f (by assumption)]; omega)) (by first | (intro q h9; rw [cnt_f (by assumption)] at h9; exact hal q h9) | (intro q h9; rw [cnt_t (by assumption)] at h9; by_cases e9 : q = cnt (sdb (wn.2 7) (wn.2 8) (wn.2 4 a1)) k; (rw [e9]; rw [hC.fv (v := a1) (i := k) (by omega) (by omega) (by assumption) rfl, ← hzv (ji41 + cnt (sdb (wn.2 7) (wn.2 8) (wn.2 4 a1)) k) (by omega), ← hp, ← hC.2.2.2.2.2.2.1 k (by omega)]; exact n144); exact hal q (by omega))) (by omega) ls (lv_sub hl [1, 2, 3, 4, 0] rfl)
              exact LP83 (sg.1 4 - 0 + 1) 0 ji41 (by first | assumption | omega) (by first | rfl | omega | (rw [cnt_t (by assumption)]; omega) | (rw [cnt_f (by assumption)]; omega)) (fun q h9 => absurd h9 (Nat.not_lt_zero q)) (Nat.lt_succ_self _) ls (lv_sub hl [3, 4, 5, 1, 0] rfl)
            · skip
              refine lv_iload_n hx hb dX4_isFilm_77 rfl (lv_at hl 4 rfl) ?_
              refine lv_istore (lv' := [(6, .int (nI ji41)), (5, .int (0 : Int32)), (0, .ref (h 0)), (1, .int (nI a1)), (2, .int (nI 1)), (3, .int (nI ji41)), (4, .int (nI nn41))]) hx hb dX4_isFilm_78 hl (by decide) rfl (fun ls hl => ?_)
              refine lv_iconst (v := nI 0) hx hb dX4_isFilm_80 (by decide) ?_
              refine lv_istore (lv' := [(7, .int (nI 0)), (6, .int (nI ji41)), (5, .int (0 : Int32)), (0, .ref (h 0)), (1, .int (nI a1)), (2, .int (nI 1)), (3, .int (nI ji41)), (4, .int (nI nn41))]) hx hb dX4_isFilm_81 hl (by decide) rfl (fun ls hl => ?_)
              have LP83 : ∀ (n83m : Nat), ∀ (k : Nat) (pp : Nat) (hk : k ≤ sg.1 4) (hp : pp = ji41 + cnt (sdb (wn.2 7) (wn.2 8) (wn.2 4 a1)) k) (hal : ∀ q, q < cnt (sdb (wn.2 7) (wn.2 8) (wn.2 4 a1)) k → zz 1 (ji41 + q) &&& 255 = (sg.2 5 (fndN (sdS sg (cvS sg a1)) (sg.1 4) q)).toInt64), (sg.1 4 - k < n83m) → ∀ (ls : Array Slot), lv_has ls 8 [(0, .ref (h 0)), (1, .int (nI a1)), (2, .int (nI 1)), (6, .int (nI pp)), (7, .int (nI k))] → W p l e (headSpec wsX4_isFilm ({ frames := 3, cells := 0, slots := 0, locals := 67 })).room s m ([.ref (h 0), .int (nI a1), .int (nI 1), .int (nI ji41), .int (nI nn41)] : List Value).toArray below meth c s.heap [] 0 0 (MQ below (vp_Si (fun r : Int32 => r = isfA sg zz (nI a1) (nI 1) (nI ji41) (nI nn41))) ([.ref (h 0), .int (nI a1), .int (nI 1), .int (nI ji41), .int (nI nn41)] : List Value).toArray s 0 0 (fun _ => False)) (F0 m 83 ls []) := by
                intro n83m
                induction n83m with
                | zero => intro k pp hk hp hal hmu ls hl; exact absurd hmu (Nat.not_lt_zero _)
                | succ n83m ih83 =>
                  intro k pp hk hp hal hmu ls hl
                  refine lv_iload hx hb dX4_isFilm_83 (lv_at hl 4 rfl) ?_
                  refine lv_aload_n hx hb dX4_isFilm_85 rfl (lv_at hl 0 rfl) ?_
                  refine va_get (D := gD G) (ci := 4) (v := .ref (h 10)) (C := RX4) (T := TX4) (N := 9) hx hb hts hiX4 hown hK hP 0 (xp_0 _ _ _ _ _ _ _ _ _ _ _ _) rfl 0 (by decide) k10 (fun _ h9 => h9) rfl dX4_isFilm_86 ?_
                  refine va_getN (D := gD G) (ci := 3) (v := .int (wn.1 5)) (C := RX3) (T := TX3) (N := 9) hx hb hts hiX3 hown hK hP 3 (xp_3 _ _ _ _ _ _ _ _ _ _ _ _) rfl 5 (by decide) k85 (fun _ h9 => h9) rfl dX4_isFilm_89 ?_
                  refine topE hC.2.1 ?_
                  refine lv_icmp_ge (tgt := 158) hx hb dX4_isFilm_92 (by decide) (fun c92 => ?_) (fun c92 => ?_)
                  · skip
                    have n92 : (sg.1 4) ≤ k := (nI_leI (a := sg.1 4) (b := k) (by omega) (by omega)).mp c92
                    refine lv_iconst (v := nI 1) hx hb dX4_isFilm_158 (by decide) ?_
                    exact W.iret (v := nI 1) hx hb hr (fun t ht hW => ⟨nI 1, rfl, by rw [isfA, if_pos ⟨inR_t ha1 (by omega), inR_t (j := 1) (by omega) (by omega)⟩, if_neg (nI_pos (by omega)), vN_n (j := nn41) (by omega), if_pos hE, vN_n (j := a1) (by omega), vN_n (j := 1) (by omega), vN_n (j := ji41) (by omega), if_pos (isf_t (hct.symm.trans n72.symm) (fun q h9 => hal q (by rw [show k = sg.1 4 by omega]; omega)))]; rfl, ht⟩) (fun _ h9 => by cases h9) dX4_isFilm_159
                  · skip
                    have n92 : ¬ ((sg.1 4) ≤ k) := fun q9 => c92 ((nI_leI (a := sg.1 4) (b := k) (by omega) (by omega)).mpr q9)
                    refine lv_aload_n hx hb dX4_isFilm_95 rfl (lv_at hl 0 rfl) ?_
                    refine va_get (D := gD G) (ci := 4) (v := .ref (h 10)) (C := RX4) (T := TX4) (N := 9) hx hb hts hiX4 hown hK hP 0 (xp_0 _ _ _ _ _ _ _ _ _ _ _ _) rfl 0 (by decide) k10 (fun _ h9 => h9) rfl dX4_isFilm_96 ?_
                    refine lv_iload hx hb dX4_isFilm_99 (lv_at hl 4 rfl) ?_
                    refine lv_aload_n hx hb dX4_isFilm_101 rfl (lv_at hl 0 rfl) ?_
                    refine va_get (D := gD G) (ci := 4) (v := .ref (h 10)) (C := RX4) (T := TX4) (N := 9) hx hb hts hiX4 hown hK hP 0 (xp_0 _ _ _ _ _ _ _ _ _ _ _ _) rfl 0 (by decide) k10 (fun _ h9 => h9) rfl dX4_isFilm_102 ?_
                    refine va_getN (D := gD G) (ci := 3) (v := .ref (h 14)) (C := RX3) (T := TX3) (N := 9) hx hb hts hiX3 hown hK hP 3 (xp_3 _ _ _ _ _ _ _ _ _ _ _ _) rfl 4 (by decide) k115 (fun _ h9 => h9) rfl dX4_isFilm_105 ?_
                    refine lv_iload_n hx hb dX4_isFilm_108 rfl (lv_at hl 1 rfl) ?_
                    refine ialdN (f := wn.2 4) (n := 24) (k := a1) hx hb hK hP 7 (xp_7 _ _ _ _ _ _ _ _ _ _ _ _) rfl (by omega) dX4_isFilm_109 ?_
                    refine cRi (w := wv G (fun k => h (10 + k)) wn) (As := [.int (nI k), .int ((wn.2 4) a1)]) (rest := []) ⟨hx, hb, hml, hown, hts⟩ (mt_X3_stands l G (fun k => h (10 + k)) wn k ((wn.2 4) a1) (by first | assumption | omega)) (cwV 2 hts gX4_isFilm_X3_stands rfl rfl rfl ⟨rfl, hd_X3_stands⟩ ⟨Nat.le_of_ble_eq_true rfl, Nat.le_of_ble_eq_true rfl⟩) hK hN (hP.sub [3, 4, 5, 6, 7, 8, 9, 10] (xf_now _ _ _ _ _ _ _ _ _ _ _ _)) 0 3 rfl rfl rfl hl.1 rfl (Nat.le_of_ble_eq_true rfl) ⟨Nat.zero_le _, Nat.zero_le _⟩ dX4_isFilm_110 (fun r110 hw110 => ?_)
                    rcases hw110 with ⟨rfl, hy110⟩ | ⟨rfl, hn110⟩
                    · skip
                      refine lv_if_eq (tgt := 152) hx hb dX4_isFilm_113 (by decide) (fun c9 => absurd c9 (by decide)) (fun _ => ?_)
                      have hm113 := cnt_mono (sdb (wn.2 7) (wn.2 8) (wn.2 4 a1)) (a := k + 1) (b := sg.1 4) (by omega)
                      rw [cnt_t (by assumption)] at hm113
                      refine lv_aload_n hx hb dX4_isFilm_116 rfl (lv_at hl 0 rfl) ?_
                      refine va_get (D := gD G) (ci := 4) (v := .ref (h 70)) (C := RX4) (T := TX4) (N := 9) hx hb hts hiX4 hown hK hP 0 (xp_0 _ _ _ _ _ _ _ _ _ _ _ _) rfl 5 (by decide) k37 (fun _ h9 => h9) rfl dX4_isFilm_117 ?_
                      refine va_getN (D := gD G) (ci := 2) (v := .ref (h 71)) (C := RX2) (T := TX2) (N := 2) hx hb hts hiX2 hown hK hP 47 (xp_47 _ _ _ _ _ _ _ _ _ _ _ _) rfl 0 (by decide) k229 (fun _ h9 => h9) rfl dX4_isFilm_120 ?_
                      refine lv_iload_n hx hb dX4_isFilm_123 rfl (lv_at hl 2 rfl) ?_
                      refine aaldJ (f := fun i => some (h (70 + (3 + i)))) (n := 4) (k := 1) (b := h 74) hx hb hK hP 48 (xp_48 _ _ _ _ _ _ _ _ _ _ _ _) rfl (by decide) rfl dX4_isFilm_124 ?_
                      refine lv_iload hx hb dX4_isFilm_125 (lv_at hl 3 rfl) ?_
                      refine laldN (f := jj 1) (n := 40) (k := pp) hx hb hK hP 51 (xp_51 _ _ _ _ _ _ _ _ _ _ _ _) rfl (by omega) dX4_isFilm_127 ?_
                      refine lv_ldc2 (v := 255) hx hb hown (hts (.constantLong RX4 243 (255)) (List.mem_of_getElem? (i := 5) rfl)) dX4_isFilm_128 ?_
                      refine lv_land hx hb dX4_isFilm_131 ?_
                      refine lv_aload_n hx hb dX4_isFilm_132 rfl (lv_at hl 0 rfl) ?_
                      refine va_get (D := gD G) (ci := 4) (v := .ref (h 10)) (C := RX4) (T := TX4) (N := 9) hx hb hts hiX4 hown hK hP 0 (xp_0 _ _ _ _ _ _ _ _ _ _ _ _) rfl 0 (by decide) k10 (fun _ h9 => h9) rfl dX4_isFilm_133 ?_
                      refine va_getN (D := gD G) (ci := 3) (v := .ref (h 16)) (C := RX3) (T := TX3) (N := 9) hx hb hts hiX3 hown hK hP 3 (xp_3 _ _ _ _ _ _ _ _ _ _ _ _) rfl 6 (by decide) k136 (fun _ h9 => h9) rfl dX4_isFilm_136 ?_
                      refine lv_iload hx hb dX4_isFilm_139 (lv_at hl 4 rfl) ?_
                      refine ialdN (f := wn.2 6) (n := 120) (k := k) hx hb hK hP 8 (xp_8 _ _ _ _ _ _ _ _ _ _ _ _) rfl (by omega) dX4_isFilm_141 ?_
                      refine lv_i2l (v := ((wn.2 6) k).toInt64) hx hb dX4_isFilm_142 rfl ?_
                      refine W.lcmp hx hb dX4_isFilm_143 ?_
                      refine lv_if_eq (tgt := 149) hx hb dX4_isFilm_144 (by decide) (fun c144 => ?_) (fun c144 => ?_)
                      · skip
                        have n144 : (((jj 1) pp) &&& 255) = (((wn.2 6) k).toInt64) := (lg_cmp_eq _ _).mp c144
                        refine lv_iinc (v := nI (pp + 1)) (lv' := [(6, .int (nI (pp + 1))), (0, .ref (h 0)), (1, .int (nI a1)), (2, .int (nI 1)), (7, .int (nI k))]) hx hb dX4_isFilm_149 hl (k := 3) rfl (nI_1 pp) (by decide) rfl (fun ls hl => ?_)
                        refine lv_iinc (v := nI (k + 1)) (lv' := [(7, .int (nI (k + 1))), (6, .int (nI (pp + 1))), (0, .ref (h 0)), (1, .int (nI a1)), (2, .int (nI 1))]) hx hb dX4_isFilm_152 hl (k := 4) rfl (nI_1 k) (by decide) rfl (fun ls hl => ?_)
                        refine lv_goto (tgt := 83) hx hb dX4_isFilm_155 (by decide) ?_
                        exact ih83 (k + 1) (pp + 1) (by first | assumption | omega) (by first | rfl | omega | (rw [cnt_t (by assumption)]; omega) | (rw [cnt_f (by assumption)]; omega)) (by first | (intro q h9; rw [cnt_f (by assumption)] at h9; exact hal q h9) | (intro q h9; rw [cnt_t (by assumption)] at h9; by_cases e9 : q = cnt (sdb (wn.2 7) (wn.2 8) (wn.2 4 a1)) k; (rw [e9]; rw [hC.fv (v := a1) (i := k) (by omega) (by omega) (by assumption) rfl, ← hzv (ji41 + cnt (sdb (wn.2 7) (wn.2 8) (wn.2 4 a1)) k) (by omega), ← hp, ← hC.2.2.2.2.2.2.1 k (by omega)]; exact n144); exact hal q (by omega))) (by omega) ls (lv_sub hl [2, 3, 4, 1, 0] rfl)
                      · skip
                        have n144 : ¬ ((((jj 1) pp) &&& 255) = (((wn.2 6) k).toInt64)) := fun q9 => c144 ((lg_cmp_eq _ _).mpr q9)
                        refine lv_iconst (v := nI 0) hx hb dX4_isFilm_147 (by decide) ?_
                        exact W.iret (v := nI 0) hx hb hr (fun t ht hW => ⟨nI 0, rfl, by rw [isfA, if_pos ⟨inR_t ha1 (by omega), inR_t (j := 1) (by omega) (by omega)⟩, if_neg (nI_pos (by omega)), vN_n (j := nn41) (by omega), if_pos hE, vN_n (j := a1) (by omega), vN_n (j := 1) (by omega), vN_n (j := ji41) (by omega), if_neg (by rw [isf_f2 (k := cnt (sdb (wn.2 7) (wn.2 8) (wn.2 4 a1)) k) (by omega) (by rw [hC.fv (v := a1) (i := k) (by omega) (by omega) (by assumption) rfl, ← hzv (ji41 + cnt (sdb (wn.2 7) (wn.2 8) (wn.2 4 a1)) k) (by omega), ← hp, ← hC.2.2.2.2.2.2.1 k (by omega)]; exact n144)]; decide)]; rfl, ht⟩) (fun _ h9 => by cases h9) dX4_isFilm_148
                    · skip
                      refine lv_if_eq (tgt := 152) hx hb dX4_isFilm_113 (by decide) (fun _ => ?_) (fun c9 => absurd (by decide) c9)
                      refine lv_iinc (v := nI (k + 1)) (lv' := [(7, .int (nI (k + 1))), (0, .ref (h 0)), (1, .int (nI a1)), (2, .int (nI 1)), (6, .int (nI pp))]) hx hb dX4_isFilm_152 hl (k := 4) rfl (nI_1 k) (by decide) rfl (fun ls hl => ?_)
                      refine lv_goto (tgt := 83) hx hb dX4_isFilm_155 (by decide) ?_
                      exact ih83 (k + 1) pp (by first | assumption | omega) (by first | rfl | omega | (rw [cnt_t (by assumption)]; omega) | (rw [cnt_f (by assumption)]; omega)) (by first | (intro q h9; rw [cnt_f (by assumption)] at h9; exact hal q h9) | (intro q h9; rw [cnt_t (by assumption)] at h9; by_cases e9 : q = cnt (sdb (wn.2 7) (wn.2 8) (wn.2 4 a1)) k; (rw [e9]; rw [hC.fv (v := a1) (i := k) (by omega) (by omega) (by assumption) rfl, ← hzv (ji41 + cnt (sdb (wn.2 7) (wn.2 8) (wn.2 4 a1)) k) (by omega), ← hp, ← hC.2.2.2.2.2.2.1 k (by omega)]; exact n144); exact hal q (by omega))) (by omega) ls (lv_sub hl [1, 2, 3, 4, 0] rfl)
              exact LP83 (sg.1 4 - 0 + 1) 0 ji41 (by first | assumption | omega) (by first | rfl | omega | (rw [cnt_t (by assumption)]; omega) | (rw [cnt_f (by assumption)]; omega)) (fun q h9 => absurd h9 (Nat.not_lt_zero q)) (Nat.lt_succ_self _) ls (lv_sub hl [3, 4, 5, 1, 0] rfl)
            · skip
              refine lv_iload_n hx hb dX4_isFilm_77 rfl (lv_at hl 4 rfl) ?_
              refine lv_istore (lv' := [(6, .int (nI ji41)), (5, .int (0 : Int32)), (0, .ref (h 0)), (1, .int (nI a1)), (2, .int (nI 2)), (3, .int (nI ji41)), (4, .int (nI nn41))]) hx hb dX4_isFilm_78 hl (by decide) rfl (fun ls hl => ?_)
              refine lv_iconst (v := nI 0) hx hb dX4_isFilm_80 (by decide) ?_
              refine lv_istore (lv' := [(7, .int (nI 0)), (6, .int (nI ji41)), (5, .int (0 : Int32)), (0, .ref (h 0)), (1, .int (nI a1)), (2, .int (nI 2)), (3, .int (nI ji41)), (4, .int (nI nn41))]) hx hb dX4_isFilm_81 hl (by decide) rfl (fun ls hl => ?_)
              have LP83 : ∀ (n83m : Nat), ∀ (k : Nat) (pp : Nat) (hk : k ≤ sg.1 4) (hp : pp = ji41 + cnt (sdb (wn.2 7) (wn.2 8) (wn.2 4 a1)) k) (hal : ∀ q, q < cnt (sdb (wn.2 7) (wn.2 8) (wn.2 4 a1)) k → zz 2 (ji41 + q) &&& 255 = (sg.2 5 (fndN (sdS sg (cvS sg a1)) (sg.1 4) q)).toInt64), (sg.1 4 - k < n83m) → ∀ (ls : Array Slot), lv_has ls 8 [(0, .ref (h 0)), (1, .int (nI a1)), (2, .int (nI 2)), (6, .int (nI pp)), (7, .int (nI k))] → W p l e (headSpec wsX4_isFilm ({ frames := 3, cells := 0, slots := 0, locals := 67 })).room s m ([.ref (h 0), .int (nI a1), .int (nI 2), .int (nI ji41), .int (nI nn41)] : List Value).toArray below meth c s.heap [] 0 0 (MQ below (vp_Si (fun r : Int32 => r = isfA sg zz (nI a1) (nI 2) (nI ji41) (nI nn41))) ([.ref (h 0), .int (nI a1), .int (nI 2), .int (nI ji41), .int (nI nn41)] : List Value).toArray s 0 0 (fun _ => False)) (F0 m 83 ls []) := by
                intro n83m
                induction n83m with
                | zero => intro k pp hk hp hal hmu ls hl; exact absurd hmu (Nat.not_lt_zero _)
                | succ n83m ih83 =>
                  intro k pp hk hp hal hmu ls hl
                  refine lv_iload hx hb dX4_isFilm_83 (lv_at hl 4 rfl) ?_
                  refine lv_aload_n hx hb dX4_isFilm_85 rfl (lv_at hl 0 rfl) ?_
                  refine va_get (D := gD G) (ci := 4) (v := .ref (h 10)) (C := RX4) (T := TX4) (N := 9) hx hb hts hiX4 hown hK hP 0 (xp_0 _ _ _ _ _ _ _ _ _ _ _ _) rfl 0 (by decide) k10 (fun _ h9 => h9) rfl dX4_isFilm_86 ?_
                  refine va_getN (D := gD G) (ci := 3) (v := .int (wn.1 5)) (C := RX3) (T := TX3) (N := 9) hx hb hts hiX3 hown hK hP 3 (xp_3 _ _ _ _ _ _ _ _ _ _ _ _) rfl 5 (by decide) k85 (fun _ h9 => h9) rfl dX4_isFilm_89 ?_
                  refine topE hC.2.1 ?_
                  refine lv_icmp_ge (tgt := 158) hx hb dX4_isFilm_92 (by decide) (fun c92 => ?_) (fun c92 => ?_)
                  · skip
                    have n92 : (sg.1 4) ≤ k := (nI_leI (a := sg.1 4) (b := k) (by omega) (by omega)).mp c92
                    refine lv_iconst (v := nI 1) hx hb dX4_isFilm_158 (by decide) ?_
                    exact W.iret (v := nI 1) hx hb hr (fun t ht hW => ⟨nI 1, rfl, by rw [isfA, if_pos ⟨inR_t ha1 (by omega), inR_t (j := 2) (by omega) (by omega)⟩, if_neg (nI_pos (by omega)), vN_n (j := nn41) (by omega), if_pos hE, vN_n (j := a1) (by omega), vN_n (j := 2) (by omega), vN_n (j := ji41) (by omega), if_pos (isf_t (hct.symm.trans n72.symm) (fun q h9 => hal q (by rw [show k = sg.1 4 by omega]; omega)))]; rfl, ht⟩) (fun _ h9 => by cases h9) dX4_isFilm_159
                  · skip
                    have n92 : ¬ ((sg.1 4) ≤ k) := fun q9 => c92 ((nI_leI (a := sg.1 4) (b := k) (by omega) (by omega)).mpr q9)
                    refine lv_aload_n hx hb dX4_isFilm_95 rfl (lv_at hl 0 rfl) ?_
                    refine va_get (D := gD G) (ci := 4) (v := .ref (h 10)) (C := RX4) (T := TX4) (N := 9) hx hb hts hiX4 hown hK hP 0 (xp_0 _ _ _ _ _ _ _ _ _ _ _ _) rfl 0 (by decide) k10 (fun _ h9 => h9) rfl dX4_isFilm_96 ?_
                    refine lv_iload hx hb dX4_isFilm_99 (lv_at hl 4 rfl) ?_
                    refine lv_aload_n hx hb dX4_isFilm_101 rfl (lv_at hl 0 rfl) ?_
                    refine va_get (D := gD G) (ci := 4) (v := .ref (h 10)) (C := RX4) (T := TX4) (N := 9) hx hb hts hiX4 hown hK hP 0 (xp_0 _ _ _ _ _ _ _ _ _ _ _ _) rfl 0 (by decide) k10 (fun _ h9 => h9) rfl dX4_isFilm_102 ?_
                    refine va_getN (D := gD G) (ci := 3) (v := .ref (h 14)) (C := RX3) (T := TX3) (N := 9) hx hb hts hiX3 hown hK hP 3 (xp_3 _ _ _ _ _ _ _ _ _ _ _ _) rfl 4 (by decide) k115 (fun _ h9 => h9) rfl dX4_isFilm_105 ?_
                    refine lv_iload_n hx hb dX4_isFilm_108 rfl (lv_at hl 1 rfl) ?_
                    refine ialdN (f := wn.2 4) (n := 24) (k := a1) hx hb hK hP 7 (xp_7 _ _ _ _ _ _ _ _ _ _ _ _) rfl (by omega) dX4_isFilm_109 ?_
                    refine cRi (w := wv G (fun k => h (10 + k)) wn) (As := [.int (nI k), .int ((wn.2 4) a1)]) (rest := []) ⟨hx, hb, hml, hown, hts⟩ (mt_X3_stands l G (fun k => h (10 + k)) wn k ((wn.2 4) a1) (by first | assumption | omega)) (cwV 2 hts gX4_isFilm_X3_stands rfl rfl rfl ⟨rfl, hd_X3_stands⟩ ⟨Nat.le_of_ble_eq_true rfl, Nat.le_of_ble_eq_true rfl⟩) hK hN (hP.sub [3, 4, 5, 6, 7, 8, 9, 10] (xf_now _ _ _ _ _ _ _ _ _ _ _ _)) 0 3 rfl rfl rfl hl.1 rfl (Nat.le_of_ble_eq_true rfl) ⟨Nat.zero_le _, Nat.zero_le _⟩ dX4_isFilm_110 (fun r110 hw110 => ?_)
                    rcases hw110 with ⟨rfl, hy110⟩ | ⟨rfl, hn110⟩
                    · skip
                      refine lv_if_eq (tgt := 152) hx hb dX4_isFilm_113 (by decide) (fun c9 => absurd c9 (by decide)) (fun _ => ?_)
                      have hm113 := cnt_mono (sdb (wn.2 7) (wn.2 8) (wn.2 4 a1)) (a := k + 1) (b := sg.1 4) (by omega)
                      rw [cnt_t (by assumption)] at hm113
                      refine lv_aload_n hx hb dX4_isFilm_116 rfl (lv_at hl 0 rfl) ?_
                      refine va_get (D := gD G) (ci := 4) (v := .ref (h 70)) (C := RX4) (T := TX4) (N := 9) hx hb hts hiX4 hown hK hP 0 (xp_0 _ _ _ _ _ _ _ _ _ _ _ _) rfl 5 (by decide) k37 (fun _ h9 => h9) rfl dX4_isFilm_117 ?_
                      refine va_getN (D := gD G) (ci := 2) (v := .ref (h 71)) (C := RX2) (T := TX2) (N := 2) hx hb hts hiX2 hown hK hP 47 (xp_47 _ _ _ _ _ _ _ _ _ _ _ _) rfl 0 (by decide) k229 (fun _ h9 => h9) rfl dX4_isFilm_120 ?_
                      refine lv_iload_n hx hb dX4_isFilm_123 rfl (lv_at hl 2 rfl) ?_
                      refine aaldJ (f := fun i => some (h (70 + (3 + i)))) (n := 4) (k := 2) (b := h 75) hx hb hK hP 48 (xp_48 _ _ _ _ _ _ _ _ _ _ _ _) rfl (by decide) rfl dX4_isFilm_124 ?_
                      refine lv_iload hx hb dX4_isFilm_125 (lv_at hl 3 rfl) ?_
                      refine laldN (f := jj 2) (n := 40) (k := pp) hx hb hK hP 52 (xp_52 _ _ _ _ _ _ _ _ _ _ _ _) rfl (by omega) dX4_isFilm_127 ?_
                      refine lv_ldc2 (v := 255) hx hb hown (hts (.constantLong RX4 243 (255)) (List.mem_of_getElem? (i := 5) rfl)) dX4_isFilm_128 ?_
                      refine lv_land hx hb dX4_isFilm_131 ?_
                      refine lv_aload_n hx hb dX4_isFilm_132 rfl (lv_at hl 0 rfl) ?_
                      refine va_get (D := gD G) (ci := 4) (v := .ref (h 10)) (C := RX4) (T := TX4) (N := 9) hx hb hts hiX4 hown hK hP 0 (xp_0 _ _ _ _ _ _ _ _ _ _ _ _) rfl 0 (by decide) k10 (fun _ h9 => h9) rfl dX4_isFilm_133 ?_
                      refine va_getN (D := gD G) (ci := 3) (v := .ref (h 16)) (C := RX3) (T := TX3) (N := 9) hx hb hts hiX3 hown hK hP 3 (xp_3 _ _ _ _ _ _ _ _ _ _ _ _) rfl 6 (by decide) k136 (fun _ h9 => h9) rfl dX4_isFilm_136 ?_
                      refine lv_iload hx hb dX4_isFilm_139 (lv_at hl 4 rfl) ?_
                      refine ialdN (f := wn.2 6) (n := 120) (k := k) hx hb hK hP 8 (xp_8 _ _ _ _ _ _ _ _ _ _ _ _) rfl (by omega) dX4_isFilm_141 ?_
                      refine lv_i2l (v := ((wn.2 6) k).toInt64) hx hb dX4_isFilm_142 rfl ?_
                      refine W.lcmp hx hb dX4_isFilm_143 ?_
                      refine lv_if_eq (tgt := 149) hx hb dX4_isFilm_144 (by decide) (fun c144 => ?_) (fun c144 => ?_)
                      · skip
                        have n144 : (((jj 2) pp) &&& 255) = (((wn.2 6) k).toInt64) := (lg_cmp_eq _ _).mp c144
                        refine lv_iinc (v := nI (pp + 1)) (lv' := [(6, .int (nI (pp + 1))), (0, .ref (h 0)), (1, .int (nI a1)), (2, .int (nI 2)), (7, .int (nI k))]) hx hb dX4_isFilm_149 hl (k := 3) rfl (nI_1 pp) (by decide) rfl (fun ls hl => ?_)
                        refine lv_iinc (v := nI (k + 1)) (lv' := [(7, .int (nI (k + 1))), (6, .int (nI (pp + 1))), (0, .ref (h 0)), (1, .int (nI a1)), (2, .int (nI 2))]) hx hb dX4_isFilm_152 hl (k := 4) rfl (nI_1 k) (by decide) rfl (fun ls hl => ?_)
                        refine lv_goto (tgt := 83) hx hb dX4_isFilm_155 (by decide) ?_
                        exact ih83 (k + 1) (pp + 1) (by first | assumption | omega) (by first | rfl | omega | (rw [cnt_t (by assumption)]; omega) | (rw [cnt_f (by assumption)]; omega)) (by first | (intro q h9; rw [cnt_f (by assumption)] at h9; exact hal q h9) | (intro q h9; rw [cnt_t (by assumption)] at h9; by_cases e9 : q = cnt (sdb (wn.2 7) (wn.2 8) (wn.2 4 a1)) k; (rw [e9]; rw [hC.fv (v := a1) (i := k) (by omega) (by omega) (by assumption) rfl, ← hzv (ji41 + cnt (sdb (wn.2 7) (wn.2 8) (wn.2 4 a1)) k) (by omega), ← hp, ← hC.2.2.2.2.2.2.1 k (by omega)]; exact n144); exact hal q (by omega))) (by omega) ls (lv_sub hl [2, 3, 4, 1, 0] rfl)
                      · skip
                        have n144 : ¬ ((((jj 2) pp) &&& 255) = (((wn.2 6) k).toInt64)) := fun q9 => c144 ((lg_cmp_eq _ _).mpr q9)
                        refine lv_iconst (v := nI 0) hx hb dX4_isFilm_147 (by decide) ?_
                        exact W.iret (v := nI 0) hx hb hr (fun t ht hW => ⟨nI 0, rfl, by rw [isfA, if_pos ⟨inR_t ha1 (by omega), inR_t (j := 2) (by omega) (by omega)⟩, if_neg (nI_pos (by omega)), vN_n (j := nn41) (by omega), if_pos hE, vN_n (j := a1) (by omega), vN_n (j := 2) (by omega), vN_n (j := ji41) (by omega), if_neg (by rw [isf_f2 (k := cnt (sdb (wn.2 7) (wn.2 8) (wn.2 4 a1)) k) (by omega) (by rw [hC.fv (v := a1) (i := k) (by omega) (by omega) (by assumption) rfl, ← hzv (ji41 + cnt (sdb (wn.2 7) (wn.2 8) (wn.2 4 a1)) k) (by omega), ← hp, ← hC.2.2.2.2.2.2.1 k (by omega)]; exact n144)]; decide)]; rfl, ht⟩) (fun _ h9 => by cases h9) dX4_isFilm_148
                    · skip
                      refine lv_if_eq (tgt := 152) hx hb dX4_isFilm_113 (by decide) (fun _ => ?_) (fun c9 => absurd (by decide) c9)
                      refine lv_iinc (v := nI (k + 1)) (lv' := [(7, .int (nI (k + 1))), (0, .ref (h 0)), (1, .int (nI a1)), (2, .int (nI 2)), (6, .int (nI pp))]) hx hb dX4_isFilm_152 hl (k := 4) rfl (nI_1 k) (by decide) rfl (fun ls hl => ?_)
                      refine lv_goto (tgt := 83) hx hb dX4_isFilm_155 (by decide) ?_
                      exact ih83 (k + 1) pp (by first | assumption | omega) (by first | rfl | omega | (rw [cnt_t (by assumption)]; omega) | (rw [cnt_f (by assumption)]; omega)) (by first | (intro q h9; rw [cnt_f (by assumption)] at h9; exact hal q h9) | (intro q h9; rw [cnt_t (by assumption)] at h9; by_cases e9 : q = cnt (sdb (wn.2 7) (wn.2 8) (wn.2 4 a1)) k; (rw [e9]; rw [hC.fv (v := a1) (i := k) (by omega) (by omega) (by assumption) rfl, ← hzv (ji41 + cnt (sdb (wn.2 7) (wn.2 8) (wn.2 4 a1)) k) (by omega), ← hp, ← hC.2.2.2.2.2.2.1 k (by omega)]; exact n144); exact hal q (by omega))) (by omega) ls (lv_sub hl [1, 2, 3, 4, 0] rfl)
              exact LP83 (sg.1 4 - 0 + 1) 0 ji41 (by first | assumption | omega) (by first | rfl | omega | (rw [cnt_t (by assumption)]; omega) | (rw [cnt_f (by assumption)]; omega)) (fun q h9 => absurd h9 (Nat.not_lt_zero q)) (Nat.lt_succ_self _) ls (lv_sub hl [3, 4, 5, 1, 0] rfl)
            · skip
              refine lv_iload_n hx hb dX4_isFilm_77 rfl (lv_at hl 4 rfl) ?_
              refine lv_istore (lv' := [(6, .int (nI ji41)), (5, .int (0 : Int32)), (0, .ref (h 0)), (1, .int (nI a1)), (2, .int (nI 3)), (3, .int (nI ji41)), (4, .int (nI nn41))]) hx hb dX4_isFilm_78 hl (by decide) rfl (fun ls hl => ?_)
              refine lv_iconst (v := nI 0) hx hb dX4_isFilm_80 (by decide) ?_
              refine lv_istore (lv' := [(7, .int (nI 0)), (6, .int (nI ji41)), (5, .int (0 : Int32)), (0, .ref (h 0)), (1, .int (nI a1)), (2, .int (nI 3)), (3, .int (nI ji41)), (4, .int (nI nn41))]) hx hb dX4_isFilm_81 hl (by decide) rfl (fun ls hl => ?_)
              have LP83 : ∀ (n83m : Nat), ∀ (k : Nat) (pp : Nat) (hk : k ≤ sg.1 4) (hp : pp = ji41 + cnt (sdb (wn.2 7) (wn.2 8) (wn.2 4 a1)) k) (hal : ∀ q, q < cnt (sdb (wn.2 7) (wn.2 8) (wn.2 4 a1)) k → zz 3 (ji41 + q) &&& 255 = (sg.2 5 (fndN (sdS sg (cvS sg a1)) (sg.1 4) q)).toInt64), (sg.1 4 - k < n83m) → ∀ (ls : Array Slot), lv_has ls 8 [(0, .ref (h 0)), (1, .int (nI a1)), (2, .int (nI 3)), (6, .int (nI pp)), (7, .int (nI k))] → W p l e (headSpec wsX4_isFilm ({ frames := 3, cells := 0, slots := 0, locals := 67 })).room s m ([.ref (h 0), .int (nI a1), .int (nI 3), .int (nI ji41), .int (nI nn41)] : List Value).toArray below meth c s.heap [] 0 0 (MQ below (vp_Si (fun r : Int32 => r = isfA sg zz (nI a1) (nI 3) (nI ji41) (nI nn41))) ([.ref (h 0), .int (nI a1), .int (nI 3), .int (nI ji41), .int (nI nn41)] : List Value).toArray s 0 0 (fun _ => False)) (F0 m 83 ls []) := by
                intro n83m
                induction n83m with
                | zero => intro k pp hk hp hal hmu ls hl; exact absurd hmu (Nat.not_lt_zero _)
                | succ n83m ih83 =>
                  intro k pp hk hp hal hmu ls hl
                  refine lv_iload hx hb dX4_isFilm_83 (lv_at hl 4 rfl) ?_
                  refine lv_aload_n hx hb dX4_isFilm_85 rfl (lv_at hl 0 rfl) ?_
                  refine va_get (D := gD G) (ci := 4) (v := .ref (h 10)) (C := RX4) (T := TX4) (N := 9) hx hb hts hiX4 hown hK hP 0 (xp_0 _ _ _ _ _ _ _ _ _ _ _ _) rfl 0 (by decide) k10 (fun _ h9 => h9) rfl dX4_isFilm_86 ?_
                  refine va_getN (D := gD G) (ci := 3) (v := .int (wn.1 5)) (C := RX3) (T := TX3) (N := 9) hx hb hts hiX3 hown hK hP 3 (xp_3 _ _ _ _ _ _ _ _ _ _ _ _) rfl 5 (by decide) k85 (fun _ h9 => h9) rfl dX4_isFilm_89 ?_
                  refine topE hC.2.1 ?_
                  refine lv_icmp_ge (tgt := 158) hx hb dX4_isFilm_92 (by decide) (fun c92 => ?_) (fun c92 => ?_)
                  · skip
                    have n92 : (sg.1 4) ≤ k := (nI_leI (a := sg.1 4) (b := k) (by omega) (by omega)).mp c92
                    refine lv_iconst (v := nI 1) hx hb dX4_isFilm_158 (by decide) ?_
                    exact W.iret (v := nI 1) hx hb hr (fun t ht hW => ⟨nI 1, rfl, by rw [isfA, if_pos ⟨inR_t ha1 (by omega), inR_t (j := 3) (by omega) (by omega)⟩, if_neg (nI_pos (by omega)), vN_n (j := nn41) (by omega), if_pos hE, vN_n (j := a1) (by omega), vN_n (j := 3) (by omega), vN_n (j := ji41) (by omega), if_pos (isf_t (hct.symm.trans n72.symm) (fun q h9 => hal q (by rw [show k = sg.1 4 by omega]; omega)))]; rfl, ht⟩) (fun _ h9 => by cases h9) dX4_isFilm_159
                  · skip
                    have n92 : ¬ ((sg.1 4) ≤ k) := fun q9 => c92 ((nI_leI (a := sg.1 4) (b := k) (by omega) (by omega)).mpr q9)
                    refine lv_aload_n hx hb dX4_isFilm_95 rfl (lv_at hl 0 rfl) ?_
                    refine va_get (D := gD G) (ci := 4) (v := .ref (h 10)) (C := RX4) (T := TX4) (N := 9) hx hb hts hiX4 hown hK hP 0 (xp_0 _ _ _ _ _ _ _ _ _ _ _ _) rfl 0 (by decide) k10 (fun _ h9 => h9) rfl dX4_isFilm_96 ?_
                    refine lv_iload hx hb dX4_isFilm_99 (lv_at hl 4 rfl) ?_
                    refine lv_aload_n hx hb dX4_isFilm_101 rfl (lv_at hl 0 rfl) ?_
                    refine va_get (D := gD G) (ci := 4) (v := .ref (h 10)) (C := RX4) (T := TX4) (N := 9) hx hb hts hiX4 hown hK hP 0 (xp_0 _ _ _ _ _ _ _ _ _ _ _ _) rfl 0 (by decide) k10 (fun _ h9 => h9) rfl dX4_isFilm_102 ?_
                    refine va_getN (D := gD G) (ci := 3) (v := .ref (h 14)) (C := RX3) (T := TX3) (N := 9) hx hb hts hiX3 hown hK hP 3 (xp_3 _ _ _ _ _ _ _ _ _ _ _ _) rfl 4 (by decide) k115 (fun _ h9 => h9) rfl dX4_isFilm_105 ?_
                    refine lv_iload_n hx hb dX4_isFilm_108 rfl (lv_at hl 1 rfl) ?_
                    refine ialdN (f := wn.2 4) (n := 24) (k := a1) hx hb hK hP 7 (xp_7 _ _ _ _ _ _ _ _ _ _ _ _) rfl (by omega) dX4_isFilm_109 ?_
                    refine cRi (w := wv G (fun k => h (10 + k)) wn) (As := [.int (nI k), .int ((wn.2 4) a1)]) (rest := []) ⟨hx, hb, hml, hown, hts⟩ (mt_X3_stands l G (fun k => h (10 + k)) wn k ((wn.2 4) a1) (by first | assumption | omega)) (cwV 2 hts gX4_isFilm_X3_stands rfl rfl rfl ⟨rfl, hd_X3_stands⟩ ⟨Nat.le_of_ble_eq_true rfl, Nat.le_of_ble_eq_true rfl⟩) hK hN (hP.sub [3, 4, 5, 6, 7, 8, 9, 10] (xf_now _ _ _ _ _ _ _ _ _ _ _ _)) 0 3 rfl rfl rfl hl.1 rfl (Nat.le_of_ble_eq_true rfl) ⟨Nat.zero_le _, Nat.zero_le _⟩ dX4_isFilm_110 (fun r110 hw110 => ?_)
                    rcases hw110 with ⟨rfl, hy110⟩ | ⟨rfl, hn110⟩
                    · skip
                      refine lv_if_eq (tgt := 152) hx hb dX4_isFilm_113 (by decide) (fun c9 => absurd c9 (by decide)) (fun _ => ?_)
                      have hm113 := cnt_mono (sdb (wn.2 7) (wn.2 8) (wn.2 4 a1)) (a := k + 1) (b := sg.1 4) (by omega)
                      rw [cnt_t (by assumption)] at hm113
                      refine lv_aload_n hx hb dX4_isFilm_116 rfl (lv_at hl 0 rfl) ?_
                      refine va_get (D := gD G) (ci := 4) (v := .ref (h 70)) (C := RX4) (T := TX4) (N := 9) hx hb hts hiX4 hown hK hP 0 (xp_0 _ _ _ _ _ _ _ _ _ _ _ _) rfl 5 (by decide) k37 (fun _ h9 => h9) rfl dX4_isFilm_117 ?_
                      refine va_getN (D := gD G) (ci := 2) (v := .ref (h 71)) (C := RX2) (T := TX2) (N := 2) hx hb hts hiX2 hown hK hP 47 (xp_47 _ _ _ _ _ _ _ _ _ _ _ _) rfl 0 (by decide) k229 (fun _ h9 => h9) rfl dX4_isFilm_120 ?_
                      refine lv_iload_n hx hb dX4_isFilm_123 rfl (lv_at hl 2 rfl) ?_
                      refine aaldJ (f := fun i => some (h (70 + (3 + i)))) (n := 4) (k := 3) (b := h 76) hx hb hK hP 48 (xp_48 _ _ _ _ _ _ _ _ _ _ _ _) rfl (by decide) rfl dX4_isFilm_124 ?_
                      refine lv_iload hx hb dX4_isFilm_125 (lv_at hl 3 rfl) ?_
                      refine laldN (f := jj 3) (n := 40) (k := pp) hx hb hK hP 53 (xp_53 _ _ _ _ _ _ _ _ _ _ _ _) rfl (by omega) dX4_isFilm_127 ?_
                      refine lv_ldc2 (v := 255) hx hb hown (hts (.constantLong RX4 243 (255)) (List.mem_of_getElem? (i := 5) rfl)) dX4_isFilm_128 ?_
                      refine lv_land hx hb dX4_isFilm_131 ?_
                      refine lv_aload_n hx hb dX4_isFilm_132 rfl (lv_at hl 0 rfl) ?_
                      refine va_get (D := gD G) (ci := 4) (v := .ref (h 10)) (C := RX4) (T := TX4) (N := 9) hx hb hts hiX4 hown hK hP 0 (xp_0 _ _ _ _ _ _ _ _ _ _ _ _) rfl 0 (by decide) k10 (fun _ h9 => h9) rfl dX4_isFilm_133 ?_
                      refine va_getN (D := gD G) (ci := 3) (v := .ref (h 16)) (C := RX3) (T := TX3) (N := 9) hx hb hts hiX3 hown hK hP 3 (xp_3 _ _ _ _ _ _ _ _ _ _ _ _) rfl 6 (by decide) k136 (fun _ h9 => h9) rfl dX4_isFilm_136 ?_
                      refine lv_iload hx hb dX4_isFilm_139 (lv_at hl 4 rfl) ?_
                      refine ialdN (f := wn.2 6) (n := 120) (k := k) hx hb hK hP 8 (xp_8 _ _ _ _ _ _ _ _ _ _ _ _) rfl (by omega) dX4_isFilm_141 ?_
                      refine lv_i2l (v := ((wn.2 6) k).toInt64) hx hb dX4_isFilm_142 rfl ?_
                      refine W.lcmp hx hb dX4_isFilm_143 ?_
                      refine lv_if_eq (tgt := 149) hx hb dX4_isFilm_144 (by decide) (fun c144 => ?_) (fun c144 => ?_)
                      · skip
                        have n144 : (((jj 3) pp) &&& 255) = (((wn.2 6) k).toInt64) := (lg_cmp_eq _ _).mp c144
                        refine lv_iinc (v := nI (pp + 1)) (lv' := [(6, .int (nI (pp + 1))), (0, .ref (h 0)), (1, .int (nI a1)), (2, .int (nI 3)), (7, .int (nI k))]) hx hb dX4_isFilm_149 hl (k := 3) rfl (nI_1 pp) (by decide) rfl (fun ls hl => ?_)
                        refine lv_iinc (v := nI (k + 1)) (lv' := [(7, .int (nI (k + 1))), (6, .int (nI (pp + 1))), (0, .ref (h 0)), (1, .int (nI a1)), (2, .int (nI 3))]) hx hb dX4_isFilm_152 hl (k := 4) rfl (nI_1 k) (by decide) rfl (fun ls hl => ?_)
                        refine lv_goto (tgt := 83) hx hb dX4_isFilm_155 (by decide) ?_
                        exact ih83 (k + 1) (pp + 1) (by first | assumption | omega) (by first | rfl | omega | (rw [cnt_t (by assumption)]; omega) | (rw [cnt_f (by assumption)]; omega)) (by first | (intro q h9; rw [cnt_f (by assumption)] at h9; exact hal q h9) | (intro q h9; rw [cnt_t (by assumption)] at h9; by_cases e9 : q = cnt (sdb (wn.2 7) (wn.2 8) (wn.2 4 a1)) k; (rw [e9]; rw [hC.fv (v := a1) (i := k) (by omega) (by omega) (by assumption) rfl, ← hzv (ji41 + cnt (sdb (wn.2 7) (wn.2 8) (wn.2 4 a1)) k) (by omega), ← hp, ← hC.2.2.2.2.2.2.1 k (by omega)]; exact n144); exact hal q (by omega))) (by omega) ls (lv_sub hl [2, 3, 4, 1, 0] rfl)
                      · skip
                        have n144 : ¬ ((((jj 3) pp) &&& 255) = (((wn.2 6) k).toInt64)) := fun q9 => c144 ((lg_cmp_eq _ _).mpr q9)
                        refine lv_iconst (v := nI 0) hx hb dX4_isFilm_147 (by decide) ?_
                        exact W.iret (v := nI 0) hx hb hr (fun t ht hW => ⟨nI 0, rfl, by rw [isfA, if_pos ⟨inR_t ha1 (by omega), inR_t (j := 3) (by omega) (by omega)⟩, if_neg (nI_pos (by omega)), vN_n (j := nn41) (by omega), if_pos hE, vN_n (j := a1) (by omega), vN_n (j := 3) (by omega), vN_n (j := ji41) (by omega), if_neg (by rw [isf_f2 (k := cnt (sdb (wn.2 7) (wn.2 8) (wn.2 4 a1)) k) (by omega) (by rw [hC.fv (v := a1) (i := k) (by omega) (by omega) (by assumption) rfl, ← hzv (ji41 + cnt (sdb (wn.2 7) (wn.2 8) (wn.2 4 a1)) k) (by omega), ← hp, ← hC.2.2.2.2.2.2.1 k (by omega)]; exact n144)]; decide)]; rfl, ht⟩) (fun _ h9 => by cases h9) dX4_isFilm_148
                    · skip
                      refine lv_if_eq (tgt := 152) hx hb dX4_isFilm_113 (by decide) (fun _ => ?_) (fun c9 => absurd (by decide) c9)
                      refine lv_iinc (v := nI (k + 1)) (lv' := [(7, .int (nI (k + 1))), (0, .ref (h 0)), (1, .int (nI a1)), (2, .int (nI 3)), (6, .int (nI pp))]) hx hb dX4_isFilm_152 hl (k := 4) rfl (nI_1 k) (by decide) rfl (fun ls hl => ?_)
                      refine lv_goto (tgt := 83) hx hb dX4_isFilm_155 (by decide) ?_
                      exact ih83 (k + 1) pp (by first | assumption | omega) (by first | rfl | omega | (rw [cnt_t (by assumption)]; omega) | (rw [cnt_f (by assumption)]; omega)) (by first | (intro q h9; rw [cnt_f (by assumption)] at h9; exact hal q h9) | (intro q h9; rw [cnt_t (by assumption)] at h9; by_cases e9 : q = cnt (sdb (wn.2 7) (wn.2 8) (wn.2 4 a1)) k; (rw [e9]; rw [hC.fv (v := a1) (i := k) (by omega) (by omega) (by assumption) rfl, ← hzv (ji41 + cnt (sdb (wn.2 7) (wn.2 8) (wn.2 4 a1)) k) (by omega), ← hp, ← hC.2.2.2.2.2.2.1 k (by omega)]; exact n144); exact hal q (by omega))) (by omega) ls (lv_sub hl [1, 2, 3, 4, 0] rfl)
              exact LP83 (sg.1 4 - 0 + 1) 0 ji41 (by first | assumption | omega) (by first | rfl | omega | (rw [cnt_t (by assumption)]; omega) | (rw [cnt_f (by assumption)]; omega)) (fun q h9 => absurd h9 (Nat.not_lt_zero q)) (Nat.lt_succ_self _) ls (lv_sub hl [3, 4, 5, 1, 0] rfl)
          · skip
            have n72 : ¬ (nn41 = (cnt (sdb (wn.2 7) (wn.2 8) ((wn.2 4) a1)) (sg.1 4))) := fun q9 => c72 ((nI_eq (a := nn41) (b := cnt (sdb (wn.2 7) (wn.2 8) ((wn.2 4) a1)) (sg.1 4)) (by omega) (by omega)).mpr q9)
            refine lv_iconst (v := nI 0) hx hb dX4_isFilm_75 (by decide) ?_
            exact W.iret (v := nI 0) hx hb hr (fun t ht hW => ⟨nI 0, rfl, by rw [isfA, if_pos ⟨inR_t ha1 (by omega), inR_t (j := js41) (by omega) (by omega)⟩, if_neg (nI_pos (by omega)), vN_n (j := nn41) (by omega), if_pos hE, vN_n (j := a1) (by omega), vN_n (j := js41) (by omega), vN_n (j := ji41) (by omega), if_neg (by rw [isf_f1 (fun q => n72 (q.symm.trans hct.symm))]; decide)]; rfl, ht⟩) (fun _ h9 => by cases h9) dX4_isFilm_76
        · skip
          have hE : refS sg s1 i1 (n27) = aUNK := ref_unk hnu41
          refine lv_istore (lv' := [(5, .int (-1000000001 : Int32)), (0, .ref (h 0)), (1, .int (nI a1)), (2, .int s1), (3, .int i1), (4, .int n1)]) hx hb dX4_isFilm_44 hl (by decide) rfl (fun ls hl => ?_)
          refine lv_iload hx hb dX4_isFilm_46 (lv_at hl 0 rfl) ?_
          refine lv_if_eq (tgt := 54) hx hb dX4_isFilm_48 (by decide) (fun c9 => absurd c9 (by decide)) (fun _ => ?_)
          refine lv_iload hx hb dX4_isFilm_51 (lv_at hl 0 rfl) ?_
          exact W.iret (v := (-1000000001 : Int32)) hx hb hr (fun t ht hW => ⟨(-1000000001 : Int32), rfl, by rw [isfA, if_pos (show inR (nI a1) (sg.1 0) = true ∧ inR s1 4 = true from ⟨inR_t ha1 (by omega), (by rw [ej16]; exact inR_t hj16 (by omega))⟩), en27, if_neg (nI_pos (by omega)), vN_n' hn27, if_neg (show ¬ refS sg s1 i1 n27 = 0 from by rw [hE]; decide), hE], ht⟩) (fun _ h9 => by cases h9) dX4_isFilm_53
        · skip
          have hE : refS sg s1 i1 (n27) = aNULL := by rw [ejs41]; exact ref_nul hjs41 (ShX.no hRX.2.2.2.2.2.2.2.2 hIS hjs41 eq41)
          refine lv_istore (lv' := [(5, .int (-1000000011 : Int32)), (0, .ref (h 0)), (1, .int (nI a1)), (2, .int s1), (3, .int i1), (4, .int n1)]) hx hb dX4_isFilm_44 hl (by decide) rfl (fun ls hl => ?_)
          refine lv_iload hx hb dX4_isFilm_46 (lv_at hl 0 rfl) ?_
          refine lv_if_eq (tgt := 54) hx hb dX4_isFilm_48 (by decide) (fun c9 => absurd c9 (by decide)) (fun _ => ?_)
          refine lv_iload hx hb dX4_isFilm_51 (lv_at hl 0 rfl) ?_
          exact W.iret (v := (-1000000011 : Int32)) hx hb hr (fun t ht hW => ⟨(-1000000011 : Int32), rfl, by rw [isfA, if_pos (show inR (nI a1) (sg.1 0) = true ∧ inR s1 4 = true from ⟨inR_t ha1 (by omega), (by rw [ej16]; exact inR_t hj16 (by omega))⟩), en27, if_neg (nI_pos (by omega)), vN_n' hn27, if_neg (show ¬ refS sg s1 i1 n27 = 0 from by rw [hE]; decide), hE], ht⟩) (fun _ h9 => by cases h9) dX4_isFilm_53
        · skip
          have hE : refS sg s1 i1 (n27) = aPLC := by rw [ejs41]; exact ref_plc hjs41 (ShX.sz hRX.2.2.2.2.2.2.2.2 hIS hjs41 hq41 eq41).1 (fun ⟨ji, e1, e2⟩ => hpl41 ⟨ji, n27, e1, en27, e2⟩)
          refine lv_istore (lv' := [(5, .int (-1000000012 : Int32)), (0, .ref (h 0)), (1, .int (nI a1)), (2, .int s1), (3, .int i1), (4, .int n1)]) hx hb dX4_isFilm_44 hl (by decide) rfl (fun ls hl => ?_)
          refine lv_iload hx hb dX4_isFilm_46 (lv_at hl 0 rfl) ?_
          refine lv_if_eq (tgt := 54) hx hb dX4_isFilm_48 (by decide) (fun c9 => absurd c9 (by decide)) (fun _ => ?_)
          refine lv_iload hx hb dX4_isFilm_51 (lv_at hl 0 rfl) ?_
          exact W.iret (v := (-1000000012 : Int32)) hx hb hr (fun t ht hW => ⟨(-1000000012 : Int32), rfl, by rw [isfA, if_pos (show inR (nI a1) (sg.1 0) = true ∧ inR s1 4 = true from ⟨inR_t ha1 (by omega), (by rw [ej16]; exact inR_t hj16 (by omega))⟩), en27, if_neg (nI_pos (by omega)), vN_n' hn27, if_neg (show ¬ refS sg s1 i1 n27 = 0 from by rw [hE]; decide), hE], ht⟩) (fun _ h9 => by cases h9) dX4_isFilm_53
      · skip
        refine lv_ldc (v := (-1000000002 : Int32)) hx hb hown (hts (.constant RX4 56 (-1000000002)) (List.mem_of_getElem? (i := 4) rfl)) dX4_isFilm_30 ?_
        exact W.iret (v := (-1000000002 : Int32)) hx hb hr (fun t ht hW => ⟨(-1000000002 : Int32), rfl, by rw [isfA, if_pos (show inR (nI a1) (sg.1 0) = true ∧ inR s1 4 = true from ⟨inR_t ha1 (by omega), (by rw [ej16]; exact inR_t hj16 (by omega))⟩), if_pos (Int32.not_le.mp c27)], ht⟩) (fun _ h9 => by cases h9) dX4_isFilm_32
    · skip
      refine lv_if_ne (tgt := 25) hx hb dX4_isFilm_19 (by decide) (fun c9 => absurd (by decide) c9) (fun _ => ?_)
      refine lv_ldc (v := (-1000000001 : Int32)) hx hb hown (hts (.constant RX4 110 (-1000000001)) (List.mem_of_getElem? (i := 3) rfl)) dX4_isFilm_22 ?_
      exact W.iret (v := (-1000000001 : Int32)) hx hb hr (fun t ht hW => ⟨(-1000000001 : Int32), rfl, by rw [isfA, if_neg (fun q => by first | exact inR_f (by omega) hna1 q.1 | exact inR_f (by omega) hn16 q.2)], ht⟩) (fun _ h9 => by cases h9) dX4_isFilm_24
  · skip
    refine lv_if_eq (tgt := 22) hx hb dX4_isFilm_8 (by decide) (fun _ => ?_) (fun c9 => absurd (by decide) c9)
    refine lv_ldc (v := (-1000000001 : Int32)) hx hb hown (hts (.constant RX4 110 (-1000000001)) (List.mem_of_getElem? (i := 3) rfl)) dX4_isFilm_22 ?_
    exact W.iret (v := (-1000000001 : Int32)) hx hb hr (fun t ht hW => ⟨(-1000000001 : Int32), rfl, by rw [isfA, if_neg (fun q => by first | exact inR_f (by omega) hna1 q.1 | exact inR_f (by omega) hn16 q.2)], ht⟩) (fun _ h9 => by cases h9) dX4_isFilm_24
set_option maxHeartbeats 1000000 in
set_option maxRecDepth 100000 in
theorem mt_X4_keepS (l : Launch) (G : gG) (h : Nat → Nat) (sz : Nat) (x : oS) (wn : oS) (wa : oS) (w0 : oS) (w1 : oS) (rd : oS) (wr : oS) (z : oS) (jj : Nat → Nat → Int64) (lt : Int64) (sg : pS) (zz : Nat → Nat → Int64) (i : Int32) (hIS : IS sg) (hRX : RepX x wn wa w0 w1 rd z jj sg zz) : Met l yX4_keep wsX4_keep ({ frames := 2, cells := 0, slots := 0, locals := 47 }) (preW G (xw G h x wn wa w0 w1 rd wr z jj lt) sz [.ref (h 0), .int i]) (va_Qi (fun (r : Int32) (v : oS × oS × oS × oS × oS × oS × oS × oS × (Nat → Nat → Int64) × Int64) => RpX v (keeF sg i) (zz) ∧ r = keeA sg i) (fun v t => PP G (xw G h v.1 v.2.1 v.2.2.1 v.2.2.2.1 v.2.2.2.2.1 v.2.2.2.2.2.1 v.2.2.2.2.2.2.1 v.2.2.2.2.2.2.2.1 v.2.2.2.2.2.2.2.2.1 v.2.2.2.2.2.2.2.2.2) t.heap) (va_A (xw G h x wn wa w0 w1 rd wr z jj lt) sz)) 0 0 (va_A (xw G h x wn wa w0 w1 rd wr z jj lt) sz) := by
  refine Met.ofW (cc := cX4_keep) (maxL := 2) (ret := (some .int)) (by decide) rfl ?_
  intro p e s m args below meth c s₁ B hml hv
  obtain ⟨ha, hsz, hP, hK, hN, hD0⟩ := hv
  subst ha
  have hx := B.exec
  have hb := B.bytes
  have hr := B.returns
  have hts := atoms_spec (ws := wsX4_keep) B.pre
  have hown : s.vm.findClass RX4 = some m.cls := findClass_of_methodNamed B.named
  have hlocks := B.notSynchronized
  subst hsz
  have hD := hD0.self (sz := s.heap.size)
  generalize hAe : va_A (xw G h x wn wa w0 w1 rd wr z jj lt) s.heap.size = A at hD ⊢
  have hA : ∀ q : Nat, s.heap.size ≤ q → A q := fun q h => by rw [← hAe]; exact Or.inr h
  clear hAe hD0
  have hS : va_S A s.heap s.heap [] := va_S.rf
  have hiX4 : ∀ w ∈ wsX40, w ∈ wsX4_keep := fun w h9 => List.mem_cons_of_mem _ (List.mem_append_left _ (List.mem_append_right _ (h9)))
  have k48 := hts (.fieldLink RX4 48 "WovenHistory" "opened" "Z") (List.mem_of_getElem? (i := 2) rfl)
  have k19 := hts (.fieldLink RX4 19 "WovenHistory" "images" "[LWovenHistory$Weave;") (List.mem_of_getElem? (i := 4) rfl)
  have k10 := hts (.fieldLink RX4 10 "WovenHistory" "now" "LWovenHistory$Weave;") (List.mem_of_getElem? (i := 5) rfl)
  have k23 := hts (.fieldLink RX4 23 "WovenHistory" "kept" "[Z") (List.mem_of_getElem? (i := 6) rfl)
  have hiX3 : ∀ w ∈ wsX30, w ∈ wsX4_keep := fun w h9 => List.mem_cons_of_mem _ (List.mem_append_right _ (h9))
  have k82 : (Cond.fieldLinkNest "WovenHistory" 82 "WovenHistory$Weave" "versions" "I" "WovenHistory").before _ s = true := va_Nw.use (A := ([.ref (h 0), .int i] : List Value).toArray) rfl (hN.1 ("WovenHistory", 82, "WovenHistory$Weave", "versions", "I") (List.mem_of_getElem? (i := 12) rfl))
  have hl := lv_entry ([.ref (h 0), .int i]) (n := 2) (Nat.le_of_ble_eq_true rfl)
  rw [lg_entry_eq]
  generalize (lg_sl ([.ref (h 0), .int i]) ++ List.replicate (2 - (lg_sl ([.ref (h 0), .int i])).length) Slot.unset).toArray = ls at hl ⊢
  have hl : lv_has ls 2 [(0, .ref (h 0)), (1, .int i)] := hl
  have hC := hRX.1
  have hic := hIS.ic
  have hv24 := hIS.1
  have hl120 := hIS.2.1
  have ho1 := hIS.2.2.1
  refine lv_iload_n hx hb dX4_keep_0 rfl (lv_at hl 1 rfl) ?_
  refine lv_if_lt (tgt := 9) hx hb dX4_keep_1 (by decide) (fun c1 => ?_) (fun c1 => ?_)
  · skip
    refine lv_ldc (v := (-1000000001 : Int32)) hx hb hown (hts (.constant RX4 110 (-1000000001)) (List.mem_of_getElem? (i := 1) rfl)) dX4_keep_9 ?_
    exact W.iret (v := (-1000000001 : Int32)) hx hb hr (fun t ht hW => ⟨⟨(-1000000001 : Int32), (x, wn, wa, w0, w1, rd, wr, z, jj, lt), rfl, ⟨by rw [keeF, if_pos (show ¬ inR i 2 = true from inR_f (by omega) (fun j hj => by first | exact hv_n1 (n := 2) (by omega) c1 j hj | exact (fun e => c6 (by rw [e]; exact (nI_ltI (a := j) (b := 2) (by omega) (by omega)).mpr hj))))]; exact hRX, by rw [keeA, if_pos (show ¬ inR i 2 = true from inR_f (by omega) (fun j hj => by first | exact hv_n1 (n := 2) (by omega) c1 j hj | exact (fun e => c6 (by rw [e]; exact (nI_ltI (a := j) (b := 2) (by omega) (by omega)).mpr hj))))]⟩, show PP G (xw G h x wn wa w0 w1 rd wr z jj lt) t.heap by rw [ht]; exact hP⟩, hS.F ht⟩) hS.2.2 dX4_keep_11
  · skip
    refine lv_iload_n hx hb dX4_keep_4 rfl (lv_at hl 1 rfl) ?_
    refine lv_iconst (v := nI 2) hx hb dX4_keep_5 (by decide) ?_
    refine lv_icmp_lt (tgt := 12) hx hb dX4_keep_6 (by decide) (fun c6 => ?_) (fun c6 => ?_)
    · skip
      obtain ⟨i2, hi2, rfl⟩ := lt_y (n := 2) (by omega) c1 c6
      refine lv_aload_n hx hb dX4_keep_12 rfl (lv_at hl 0 rfl) ?_
      refine va_get (D := gD G) (ci := 4) (v := .int (x.1 7)) (C := RX4) (T := TX4) (N := 9) hx hb hts hiX4 hown hK hP 0 (xp_0 _ _ _ _ _ _ _ _ _ _ _ _) rfl 7 (by decide) k48 (fun _ h9 => h9) rfl dX4_keep_13 ?_
      refine topE hRX.2.1 ?_
      refine lv_if_eq (tgt := 22) hx hb dX4_keep_16 (by decide) (fun c16 => ?_) (fun c16 => ?_)
      · skip
        have n16 : (sg.1 8) = 0 := (nI_eq (a := sg.1 8) (b := 0) (by omega) (by omega)).mp c16
        rcases (show i2 = 0 ∨ i2 = 1 by omega) with rfl | rfl
        · skip
          refine lv_aload_n hx hb dX4_keep_22 rfl (lv_at hl 0 rfl) ?_
          refine va_get (D := gD G) (ci := 4) (v := .ref (h 2)) (C := RX4) (T := TX4) (N := 9) hx hb hts hiX4 hown hK hP 0 (xp_0 _ _ _ _ _ _ _ _ _ _ _ _) rfl 2 (by decide) k19 (fun _ h9 => h9) rfl dX4_keep_23 ?_
          refine lv_iload_n hx hb dX4_keep_26 rfl (lv_at hl 1 rfl) ?_
          refine aaldW (f := fun i => some (h (30 + 10 * i))) (n := 2) (k := 0) (b := h 30) hx hb hK hP 1 (xp_1 _ _ _ _ _ _ _ _ _ _ _ _) rfl (by decide) rfl dX4_keep_27 ?_
          refine lv_aload_n hx hb dX4_keep_28 rfl (lv_at hl 0 rfl) ?_
          refine va_get (D := gD G) (ci := 4) (v := .ref (h 10)) (C := RX4) (T := TX4) (N := 9) hx hb hts hiX4 hown hK hP 0 (xp_0 _ _ _ _ _ _ _ _ _ _ _ _) rfl 0 (by decide) k10 (fun _ h9 => h9) rfl dX4_keep_29 ?_
          refine cWv (As := [.ref (h 10)]) (rest := []) (S := oS × oS) (wa := xw G h x wn wa w0 w1 rd wr z jj lt) (wc := wb G (fun k => h (30 + k)) (fun k => h (10 + k)) w0 wn) (w1 := fun v => wb G (fun k => h (30 + k)) (fun k => h (10 + k)) v.1 v.2) (wa' := fun v => xw G h x v.2 wa v.1 w1 rd wr z jj lt) ⟨hx, hb, hml, hown, hts⟩ (mt_X3_becomeF l G (fun k => h (30 + k)) _ w0 wn (fun k => h (10 + k))) (cwV 1 hts gX4_keep_X3_become rfl rfl rfl ⟨rfl, hd_X3_become⟩ ⟨Nat.le_of_ble_eq_true rfl, Nat.le_of_ble_eq_true rfl⟩) hK hN hP hD hS hA [19, 20, 21, 22, 23, 24, 25, 26, 3, 4, 5, 6, 7, 8, 9, 10] (yc_im0_now _ _ _ _ _ _ _ _ _ _ _ _) (by decide) (yf_im0_now _ _ _ _ _ _ _ _ _ _ _ _) (fun _ => rfl) (fun v => yo_im0_now _ _ _ _ _ _ _ _ _ _ _ _ v) (fun v => ym_im0_now _ _ _ _ _ _ _ _ _ _ _ _ v) 0 3 rfl rfl rfl hl.1 rfl (Nat.le_of_ble_eq_true rfl) ⟨Nat.zero_le _, Nat.zero_le _⟩ dX4_keep_32 (fun u32 H locs hw32 hP hD hS => ?_)
          obtain ⟨w32, rfl, hcp32⟩ := hw32
          have hP : PP G (xw G h x wn wa w32 w1 rd wr z jj lt) H := hP
          have hD : va_D A (xw G h x wn wa w32 w1 rd wr z jj lt) := hD
          refine lv_aload_n hx hb dX4_keep_35 rfl (lv_at hl 0 rfl) ?_
          refine va_get (D := gD G) (ci := 4) (v := .ref (h 3)) (C := RX4) (T := TX4) (N := 9) hx hb hts hiX4 hown hK hP 0 (xp_0 _ _ _ _ _ _ _ _ _ _ _ _) rfl 3 (by decide) k23 (fun _ h9 => h9) rfl dX4_keep_36 ?_
          refine lv_iload_n hx hb dX4_keep_39 rfl (lv_at hl 1 rfl) ?_
          refine lv_iconst (v := nI 1) hx hb dX4_keep_40 (by decide) ?_
          refine zastN (f := x.2 3) (n := 2) (k := 0) hx hb hK hP hD hS 2 (xp_2 _ _ _ _ _ _ _ _ _ _ _ _) rfl (by omega) (Or.inr rfl) dX4_keep_41 (fun H locs hP hD hS => ?_)
          rw [xs_2] at hP hD
          have hP : PP G (xw G h (oA x 3 (upd (x.2 3) 0 (nI 1))) wn wa w32 w1 rd wr z jj lt) H := hP
          have hD : va_D A (xw G h (oA x 3 (upd (x.2 3) 0 (nI 1))) wn wa w32 w1 rd wr z jj lt) := hD
          refine lv_aload_n hx hb dX4_keep_42 rfl (lv_at hl 0 rfl) ?_
          refine va_get (D := gD G) (ci := 4) (v := .ref (h 10)) (C := RX4) (T := TX4) (N := 9) hx hb hts hiX4 hown hK hP 0 (xp_0 _ _ _ _ _ _ _ _ _ _ _ _) rfl 0 (by decide) k10 (fun _ h9 => h9) rfl dX4_keep_43 ?_
          refine va_getN (D := gD G) (ci := 3) (v := .int (wn.1 0)) (C := RX3) (T := TX3) (N := 9) hx hb hts hiX3 hown hK hP 3 (xp_3 _ _ _ _ _ _ _ _ _ _ _ _) rfl 0 (by decide) k82 (fun _ h9 => h9) rfl dX4_keep_46 ?_
          refine topE hC.1 ?_
          exact W.iret (v := nI (sg.1 0)) hx hb hr (fun t ht hW => ⟨⟨nI (sg.1 0), (oA x 3 (upd (x.2 3) 0 (nI 1)), wn, wa, w32, w1, rd, wr, z, jj, lt), rfl, ⟨by rw [keeF, if_neg (show ¬ ¬ inR (nI 0) 2 = true from not_not_intro (inR_t (by omega) (by omega))), if_neg (not_not_intro n16), vN_n (j := 0) (by omega)]; exact RepX_kee0 hRX hIS n16 hcp32 (by rw [pk_us]; decide) (pk_un (by decide)), by rw [keeA, if_neg (show ¬ ¬ inR (nI 0) 2 = true from not_not_intro (inR_t (by omega) (by omega))), if_neg (not_not_intro n16)]⟩, show PP G (xw G h (oA x 3 (upd (x.2 3) 0 (nI 1))) wn wa w32 w1 rd wr z jj lt) t.heap by rw [ht]; exact hP⟩, hS.F ht⟩) hS.2.2 dX4_keep_49
        · skip
          refine lv_aload_n hx hb dX4_keep_22 rfl (lv_at hl 0 rfl) ?_
          refine va_get (D := gD G) (ci := 4) (v := .ref (h 2)) (C := RX4) (T := TX4) (N := 9) hx hb hts hiX4 hown hK hP 0 (xp_0 _ _ _ _ _ _ _ _ _ _ _ _) rfl 2 (by decide) k19 (fun _ h9 => h9) rfl dX4_keep_23 ?_
          refine lv_iload_n hx hb dX4_keep_26 rfl (lv_at hl 1 rfl) ?_
          refine aaldW (f := fun i => some (h (30 + 10 * i))) (n := 2) (k := 1) (b := h 40) hx hb hK hP 1 (xp_1 _ _ _ _ _ _ _ _ _ _ _ _) rfl (by decide) rfl dX4_keep_27 ?_
          refine lv_aload_n hx hb dX4_keep_28 rfl (lv_at hl 0 rfl) ?_
          refine va_get (D := gD G) (ci := 4) (v := .ref (h 10)) (C := RX4) (T := TX4) (N := 9) hx hb hts hiX4 hown hK hP 0 (xp_0 _ _ _ _ _ _ _ _ _ _ _ _) rfl 0 (by decide) k10 (fun _ h9 => h9) rfl dX4_keep_29 ?_
          refine cWv (As := [.ref (h 10)]) (rest := []) (S := oS × oS) (wa := xw G h x wn wa w0 w1 rd wr z jj lt) (wc := wb G (fun k => h (40 + k)) (fun k => h (10 + k)) w1 wn) (w1 := fun v => wb G (fun k => h (40 + k)) (fun k => h (10 + k)) v.1 v.2) (wa' := fun v => xw G h x v.2 wa w0 v.1 rd wr z jj lt) ⟨hx, hb, hml, hown, hts⟩ (mt_X3_becomeF l G (fun k => h (40 + k)) _ w1 wn (fun k => h (10 + k))) (cwV 1 hts gX4_keep_X3_become rfl rfl rfl ⟨rfl, hd_X3_become⟩ ⟨Nat.le_of_ble_eq_true rfl, Nat.le_of_ble_eq_true rfl⟩) hK hN hP hD hS hA [27, 28, 29, 30, 31, 32, 33, 34, 3, 4, 5, 6, 7, 8, 9, 10] (yc_im1_now _ _ _ _ _ _ _ _ _ _ _ _) (by decide) (yf_im1_now _ _ _ _ _ _ _ _ _ _ _ _) (fun _ => rfl) (fun v => yo_im1_now _ _ _ _ _ _ _ _ _ _ _ _ v) (fun v => ym_im1_now _ _ _ _ _ _ _ _ _ _ _ _ v) 0 3 rfl rfl rfl hl.1 rfl (Nat.le_of_ble_eq_true rfl) ⟨Nat.zero_le _, Nat.zero_le _⟩ dX4_keep_32 (fun u32 H locs hw32 hP hD hS => ?_)
          obtain ⟨w32, rfl, hcp32⟩ := hw32
          have hP : PP G (xw G h x wn wa w0 w32 rd wr z jj lt) H := hP
          have hD : va_D A (xw G h x wn wa w0 w32 rd wr z jj lt) := hD
          refine lv_aload_n hx hb dX4_keep_35 rfl (lv_at hl 0 rfl) ?_
          refine va_get (D := gD G) (ci := 4) (v := .ref (h 3)) (C := RX4) (T := TX4) (N := 9) hx hb hts hiX4 hown hK hP 0 (xp_0 _ _ _ _ _ _ _ _ _ _ _ _) rfl 3 (by decide) k23 (fun _ h9 => h9) rfl dX4_keep_36 ?_
          refine lv_iload_n hx hb dX4_keep_39 rfl (lv_at hl 1 rfl) ?_
          refine lv_iconst (v := nI 1) hx hb dX4_keep_40 (by decide) ?_
          refine zastN (f := x.2 3) (n := 2) (k := 1) hx hb hK hP hD hS 2 (xp_2 _ _ _ _ _ _ _ _ _ _ _ _) rfl (by omega) (Or.inr rfl) dX4_keep_41 (fun H locs hP hD hS => ?_)
          rw [xs_2] at hP hD
          have hP : PP G (xw G h (oA x 3 (upd (x.2 3) 1 (nI 1))) wn wa w0 w32 rd wr z jj lt) H := hP
          have hD : va_D A (xw G h (oA x 3 (upd (x.2 3) 1 (nI 1))) wn wa w0 w32 rd wr z jj lt) := hD
          refine lv_aload_n hx hb dX4_keep_42 rfl (lv_at hl 0 rfl) ?_
          refine va_get (D := gD G) (ci := 4) (v := .ref (h 10)) (C := RX4) (T := TX4) (N := 9) hx hb hts hiX4 hown hK hP 0 (xp_0 _ _ _ _ _ _ _ _ _ _ _ _) rfl 0 (by decide) k10 (fun _ h9 => h9) rfl dX4_keep_43 ?_
          refine va_getN (D := gD G) (ci := 3) (v := .int (wn.1 0)) (C := RX3) (T := TX3) (N := 9) hx hb hts hiX3 hown hK hP 3 (xp_3 _ _ _ _ _ _ _ _ _ _ _ _) rfl 0 (by decide) k82 (fun _ h9 => h9) rfl dX4_keep_46 ?_
          refine topE hC.1 ?_
          exact W.iret (v := nI (sg.1 0)) hx hb hr (fun t ht hW => ⟨⟨nI (sg.1 0), (oA x 3 (upd (x.2 3) 1 (nI 1)), wn, wa, w0, w32, rd, wr, z, jj, lt), rfl, ⟨by rw [keeF, if_neg (show ¬ ¬ inR (nI 1) 2 = true from not_not_intro (inR_t (by omega) (by omega))), if_neg (not_not_intro n16), vN_n (j := 1) (by omega)]; exact RepX_kee1 hRX hIS n16 hcp32 (by rw [pk_us]; decide) (pk_un (by decide)), by rw [keeA, if_neg (show ¬ ¬ inR (nI 1) 2 = true from not_not_intro (inR_t (by omega) (by omega))), if_neg (not_not_intro n16)]⟩, show PP G (xw G h (oA x 3 (upd (x.2 3) 1 (nI 1))) wn wa w0 w32 rd wr z jj lt) t.heap by rw [ht]; exact hP⟩, hS.F ht⟩) hS.2.2 dX4_keep_49
      · skip
        have n16 : ¬ ((sg.1 8) = 0) := fun q9 => c16 ((nI_eq (a := sg.1 8) (b := 0) (by omega) (by omega)).mpr q9)
        refine lv_ldc (v := (-1000000003 : Int32)) hx hb hown (hts (.constant RX4 148 (-1000000003)) (List.mem_of_getElem? (i := 3) rfl)) dX4_keep_19 ?_
        exact W.iret (v := (-1000000003 : Int32)) hx hb hr (fun t ht hW => ⟨⟨(-1000000003 : Int32), (x, wn, wa, w0, w1, rd, wr, z, jj, lt), rfl, ⟨by rw [keeF, if_neg (show ¬ ¬ inR (nI i2) 2 = true from not_not_intro (inR_t (by omega) (by omega))), if_pos n16]; exact hRX, by rw [keeA, if_neg (show ¬ ¬ inR (nI i2) 2 = true from not_not_intro (inR_t (by omega) (by omega))), if_pos n16]⟩, show PP G (xw G h x wn wa w0 w1 rd wr z jj lt) t.heap by rw [ht]; exact hP⟩, hS.F ht⟩) hS.2.2 dX4_keep_21
    · skip
      refine lv_ldc (v := (-1000000001 : Int32)) hx hb hown (hts (.constant RX4 110 (-1000000001)) (List.mem_of_getElem? (i := 1) rfl)) dX4_keep_9 ?_
      exact W.iret (v := (-1000000001 : Int32)) hx hb hr (fun t ht hW => ⟨⟨(-1000000001 : Int32), (x, wn, wa, w0, w1, rd, wr, z, jj, lt), rfl, ⟨by rw [keeF, if_pos (show ¬ inR i 2 = true from inR_f (by omega) (fun j hj => by first | exact hv_n1 (n := 2) (by omega) c1 j hj | exact (fun e => c6 (by rw [e]; exact (nI_ltI (a := j) (b := 2) (by omega) (by omega)).mpr hj))))]; exact hRX, by rw [keeA, if_pos (show ¬ inR i 2 = true from inR_f (by omega) (fun j hj => by first | exact hv_n1 (n := 2) (by omega) c1 j hj | exact (fun e => c6 (by rw [e]; exact (nI_ltI (a := j) (b := 2) (by omega) (by omega)).mpr hj))))]⟩, show PP G (xw G h x wn wa w0 w1 rd wr z jj lt) t.heap by rw [ht]; exact hP⟩, hS.F ht⟩) hS.2.2 dX4_keep_11
set_option maxHeartbeats 1000000 in
set_option maxRecDepth 100000 in
theorem mt_X4_goBackS (l : Launch) (G : gG) (h : Nat → Nat) (sz : Nat) (x : oS) (wn : oS) (wa : oS) (w0 : oS) (w1 : oS) (rd : oS) (wr : oS) (z : oS) (jj : Nat → Nat → Int64) (lt : Int64) (sg : pS) (zz : Nat → Nat → Int64) (i : Int32) (hIS : IS sg) (hRX : RepX x wn wa w0 w1 rd z jj sg zz) : Met l yX4_goBack wsX4_goBack ({ frames := 2, cells := 0, slots := 0, locals := 47 }) (preW G (xw G h x wn wa w0 w1 rd wr z jj lt) sz [.ref (h 0), .int i]) (va_Qi (fun (r : Int32) (v : oS × oS × oS × oS × oS × oS × oS × oS × (Nat → Nat → Int64) × Int64) => RpX v (bacF sg i) (zz) ∧ r = bacA sg i) (fun v t => PP G (xw G h v.1 v.2.1 v.2.2.1 v.2.2.2.1 v.2.2.2.2.1 v.2.2.2.2.2.1 v.2.2.2.2.2.2.1 v.2.2.2.2.2.2.2.1 v.2.2.2.2.2.2.2.2.1 v.2.2.2.2.2.2.2.2.2) t.heap) (va_A (xw G h x wn wa w0 w1 rd wr z jj lt) sz)) 0 0 (va_A (xw G h x wn wa w0 w1 rd wr z jj lt) sz) := by
  refine Met.ofW (cc := cX4_goBack) (maxL := 2) (ret := (some .int)) (by decide) rfl ?_
  intro p e s m args below meth c s₁ B hml hv
  obtain ⟨ha, hsz, hP, hK, hN, hD0⟩ := hv
  subst ha
  have hx := B.exec
  have hb := B.bytes
  have hr := B.returns
  have hts := atoms_spec (ws := wsX4_goBack) B.pre
  have hown : s.vm.findClass RX4 = some m.cls := findClass_of_methodNamed B.named
  have hlocks := B.notSynchronized
  subst hsz
  have hD := hD0.self (sz := s.heap.size)
  generalize hAe : va_A (xw G h x wn wa w0 w1 rd wr z jj lt) s.heap.size = A at hD ⊢
  have hA : ∀ q : Nat, s.heap.size ≤ q → A q := fun q h => by rw [← hAe]; exact Or.inr h
  clear hAe hD0
  have hS : va_S A s.heap s.heap [] := va_S.rf
  have hiX4 : ∀ w ∈ wsX40, w ∈ wsX4_goBack := fun w h9 => List.mem_cons_of_mem _ (List.mem_append_left _ (List.mem_append_right _ (h9)))
  have k23 := hts (.fieldLink RX4 23 "WovenHistory" "kept" "[Z") (List.mem_of_getElem? (i := 2) rfl)
  have k10 := hts (.fieldLink RX4 10 "WovenHistory" "now" "LWovenHistory$Weave;") (List.mem_of_getElem? (i := 4) rfl)
  have k19 := hts (.fieldLink RX4 19 "WovenHistory" "images" "[LWovenHistory$Weave;") (List.mem_of_getElem? (i := 5) rfl)
  have k48 := hts (.fieldLink RX4 48 "WovenHistory" "opened" "Z") (List.mem_of_getElem? (i := 6) rfl)
  have hiX3 : ∀ w ∈ wsX30, w ∈ wsX4_goBack := fun w h9 => List.mem_cons_of_mem _ (List.mem_append_right _ (h9))
  have k82 : (Cond.fieldLinkNest "WovenHistory" 82 "WovenHistory$Weave" "versions" "I" "WovenHistory").before _ s = true := va_Nw.use (A := ([.ref (h 0), .int i] : List Value).toArray) rfl (hN.1 ("WovenHistory", 82, "WovenHistory$Weave", "versions", "I") (List.mem_of_getElem? (i := 12) rfl))
  have hl := lv_entry ([.ref (h 0), .int i]) (n := 2) (Nat.le_of_ble_eq_true rfl)
  rw [lg_entry_eq]
  generalize (lg_sl ([.ref (h 0), .int i]) ++ List.replicate (2 - (lg_sl ([.ref (h 0), .int i])).length) Slot.unset).toArray = ls at hl ⊢
  have hl : lv_has ls 2 [(0, .ref (h 0)), (1, .int i)] := hl
  have hC := hRX.1
  have hic := hIS.ic
  have hv24 := hIS.1
  have hl120 := hIS.2.1
  have ho1 := hIS.2.2.1
  refine lv_iload_n hx hb dX4_goBack_0 rfl (lv_at hl 1 rfl) ?_
  refine lv_if_lt (tgt := 9) hx hb dX4_goBack_1 (by decide) (fun c1 => ?_) (fun c1 => ?_)
  · skip
    refine lv_ldc (v := (-1000000001 : Int32)) hx hb hown (hts (.constant RX4 110 (-1000000001)) (List.mem_of_getElem? (i := 1) rfl)) dX4_goBack_9 ?_
    exact W.iret (v := (-1000000001 : Int32)) hx hb hr (fun t ht hW => ⟨⟨(-1000000001 : Int32), (x, wn, wa, w0, w1, rd, wr, z, jj, lt), rfl, ⟨by rw [bacF, if_pos (show ¬ inR i 2 = true from inR_f (by omega) (fun j hj => by first | exact hv_n1 (n := 2) (by omega) c1 j hj | exact (fun e => c6 (by rw [e]; exact (nI_ltI (a := j) (b := 2) (by omega) (by omega)).mpr hj))))]; exact hRX, by rw [bacA, if_pos (show ¬ inR i 2 = true from inR_f (by omega) (fun j hj => by first | exact hv_n1 (n := 2) (by omega) c1 j hj | exact (fun e => c6 (by rw [e]; exact (nI_ltI (a := j) (b := 2) (by omega) (by omega)).mpr hj))))]⟩, show PP G (xw G h x wn wa w0 w1 rd wr z jj lt) t.heap by rw [ht]; exact hP⟩, hS.F ht⟩) hS.2.2 dX4_goBack_11
  · skip
    refine lv_iload_n hx hb dX4_goBack_4 rfl (lv_at hl 1 rfl) ?_
    refine lv_iconst (v := nI 2) hx hb dX4_goBack_5 (by decide) ?_
    refine lv_icmp_lt (tgt := 12) hx hb dX4_goBack_6 (by decide) (fun c6 => ?_) (fun c6 => ?_)
    · skip
      obtain ⟨i2, hi2, rfl⟩ := lt_y (n := 2) (by omega) c1 c6
      refine lv_aload_n hx hb dX4_goBack_12 rfl (lv_at hl 0 rfl) ?_
      refine va_get (D := gD G) (ci := 4) (v := .ref (h 3)) (C := RX4) (T := TX4) (N := 9) hx hb hts hiX4 hown hK hP 0 (xp_0 _ _ _ _ _ _ _ _ _ _ _ _) rfl 3 (by decide) k23 (fun _ h9 => h9) rfl dX4_goBack_13 ?_
      refine lv_iload_n hx hb dX4_goBack_16 rfl (lv_at hl 1 rfl) ?_
      refine zaldN (f := x.2 3) (n := 2) (k := i2) hx hb hK hP 2 (xp_2 _ _ _ _ _ _ _ _ _ _ _ _) rfl (by omega) dX4_goBack_17 ?_
      refine lv_if_ne (tgt := 24) hx hb dX4_goBack_18 (by decide) (fun c18 => ?_) (fun c18 => ?_)
      · skip
        rcases (show i2 = 0 ∨ i2 = 1 by omega) with rfl | rfl
        · skip
          refine lv_aload_n hx hb dX4_goBack_24 rfl (lv_at hl 0 rfl) ?_
          refine va_get (D := gD G) (ci := 4) (v := .ref (h 10)) (C := RX4) (T := TX4) (N := 9) hx hb hts hiX4 hown hK hP 0 (xp_0 _ _ _ _ _ _ _ _ _ _ _ _) rfl 0 (by decide) k10 (fun _ h9 => h9) rfl dX4_goBack_25 ?_
          refine lv_aload_n hx hb dX4_goBack_28 rfl (lv_at hl 0 rfl) ?_
          refine va_get (D := gD G) (ci := 4) (v := .ref (h 2)) (C := RX4) (T := TX4) (N := 9) hx hb hts hiX4 hown hK hP 0 (xp_0 _ _ _ _ _ _ _ _ _ _ _ _) rfl 2 (by decide) k19 (fun _ h9 => h9) rfl dX4_goBack_29 ?_
          refine lv_iload_n hx hb dX4_goBack_32 rfl (lv_at hl 1 rfl) ?_
          refine aaldW (f := fun i => some (h (30 + 10 * i))) (n := 2) (k := 0) (b := h 30) hx hb hK hP 1 (xp_1 _ _ _ _ _ _ _ _ _ _ _ _) rfl (by decide) rfl dX4_goBack_33 ?_
          refine cWv (As := [.ref (h 30)]) (rest := []) (S := oS × oS) (wa := xw G h x wn wa w0 w1 rd wr z jj lt) (wc := wb G (fun k => h (10 + k)) (fun k => h (30 + k)) wn w0) (w1 := fun v => wb G (fun k => h (10 + k)) (fun k => h (30 + k)) v.1 v.2) (wa' := fun v => xw G h x v.1 wa v.2 w1 rd wr z jj lt) ⟨hx, hb, hml, hown, hts⟩ (mt_X3_becomeF l G (fun k => h (10 + k)) _ wn w0 (fun k => h (30 + k))) (cwV 1 hts gX4_goBack_X3_become rfl rfl rfl ⟨rfl, hd_X3_become⟩ ⟨Nat.le_of_ble_eq_true rfl, Nat.le_of_ble_eq_true rfl⟩) hK hN hP hD hS hA [3, 4, 5, 6, 7, 8, 9, 10, 19, 20, 21, 22, 23, 24, 25, 26] (yc_now_im0 _ _ _ _ _ _ _ _ _ _ _ _) (by decide) (yf_now_im0 _ _ _ _ _ _ _ _ _ _ _ _) (fun _ => rfl) (fun v => yo_now_im0 _ _ _ _ _ _ _ _ _ _ _ _ v) (fun v => ym_now_im0 _ _ _ _ _ _ _ _ _ _ _ _ v) 0 3 rfl rfl rfl hl.1 rfl (Nat.le_of_ble_eq_true rfl) ⟨Nat.zero_le _, Nat.zero_le _⟩ dX4_goBack_34 (fun u34 H locs hw34 hP hD hS => ?_)
          obtain ⟨w34, rfl, hcp34⟩ := hw34
          have hP : PP G (xw G h x w34 wa w0 w1 rd wr z jj lt) H := hP
          have hD : va_D A (xw G h x w34 wa w0 w1 rd wr z jj lt) := hD
          refine lv_aload_n hx hb dX4_goBack_37 rfl (lv_at hl 0 rfl) ?_
          refine lv_iconst (v := nI 0) hx hb dX4_goBack_38 (by decide) ?_
          refine va_put (D := gD G) (ci := 4) (v := .int (nI 0)) (ty := .boolean) (C := RX4) (T := TX4) (N := 9) hx hb hts hiX4 tyX4 tyX4_ok nmX4 hown hK hP hD hS 0 (xp_0 _ _ _ _ _ _ _ _ _ _ _ _) rfl 7 (by decide) k48 (fun _ h9 => h9) rfl (tyX4_ok 7 (by decide)) (rfl) (rfl) (Nat.le_of_ble_eq_true rfl) dX4_goBack_39 (fun H locs hP hD hS => ?_)
          have hP : PP G (xw G h (oI x 7 (nI 0)) w34 wa w0 w1 rd wr z jj lt) H := hP
          have hD : va_D A (xw G h (oI x 7 (nI 0)) w34 wa w0 w1 rd wr z jj lt) := hD
          refine lv_aload_n hx hb dX4_goBack_42 rfl (lv_at hl 0 rfl) ?_
          refine va_get (D := gD G) (ci := 4) (v := .ref (h 10)) (C := RX4) (T := TX4) (N := 9) hx hb hts hiX4 hown hK hP 0 (xp_0 _ _ _ _ _ _ _ _ _ _ _ _) rfl 0 (by decide) k10 (fun _ h9 => h9) rfl dX4_goBack_43 ?_
          refine va_getN (D := gD G) (ci := 3) (v := .int (w34.1 0)) (C := RX3) (T := TX3) (N := 9) hx hb hts hiX3 hown hK hP 3 (xp_3 _ _ _ _ _ _ _ _ _ _ _ _) rfl 0 (by decide) k82 (fun _ h9 => h9) rfl dX4_goBack_46 ?_
          exact W.iret (v := w34.1 0) hx hb hr (fun t ht hW => ⟨⟨w34.1 0, (oI x 7 (nI 0), w34, wa, w0, w1, rd, wr, z, jj, lt), rfl, ⟨by rw [bacF, if_neg (show ¬ ¬ inR (nI 0) 2 = true from not_not_intro (inR_t (by omega) (by omega))), vN_n (j := 0) (by omega), if_neg (show ¬ sg.1 (40 + 0) = 0 from fun q => absurd (ImX_y hRX.2.2.2.2.2.2.1 c18).1 (by have q9 : sg.1 40 = 0 := q; omega))]; exact RepX_bac0 hRX hIS c18 hcp34, by rw [bacA, if_neg (show ¬ ¬ inR (nI 0) 2 = true from not_not_intro (inR_t (by omega) (by omega))), vN_n (j := 0) (by omega), if_neg (show ¬ sg.1 (40 + 0) = 0 from fun q => absurd (ImX_y hRX.2.2.2.2.2.2.1 c18).1 (by have q9 : sg.1 40 = 0 := q; omega))]; exact hcp34.1.trans (ImX_y hRX.2.2.2.2.2.2.1 c18).2.1⟩, show PP G (xw G h (oI x 7 (nI 0)) w34 wa w0 w1 rd wr z jj lt) t.heap by rw [ht]; exact hP⟩, hS.F ht⟩) hS.2.2 dX4_goBack_49
        · skip
          refine lv_aload_n hx hb dX4_goBack_24 rfl (lv_at hl 0 rfl) ?_
          refine va_get (D := gD G) (ci := 4) (v := .ref (h 10)) (C := RX4) (T := TX4) (N := 9) hx hb hts hiX4 hown hK hP 0 (xp_0 _ _ _ _ _ _ _ _ _ _ _ _) rfl 0 (by decide) k10 (fun _ h9 => h9) rfl dX4_goBack_25 ?_
          refine lv_aload_n hx hb dX4_goBack_28 rfl (lv_at hl 0 rfl) ?_
          refine va_get (D := gD G) (ci := 4) (v := .ref (h 2)) (C := RX4) (T := TX4) (N := 9) hx hb hts hiX4 hown hK hP 0 (xp_0 _ _ _ _ _ _ _ _ _ _ _ _) rfl 2 (by decide) k19 (fun _ h9 => h9) rfl dX4_goBack_29 ?_
          refine lv_iload_n hx hb dX4_goBack_32 rfl (lv_at hl 1 rfl) ?_
          refine aaldW (f := fun i => some (h (30 + 10 * i))) (n := 2) (k := 1) (b := h 40) hx hb hK hP 1 (xp_1 _ _ _ _ _ _ _ _ _ _ _ _) rfl (by decide) rfl dX4_goBack_33 ?_
          refine cWv (As := [.ref (h 40)]) (rest := []) (S := oS × oS) (wa := xw G h x wn wa w0 w1 rd wr z jj lt) (wc := wb G (fun k => h (10 + k)) (fun k => h (40 + k)) wn w1) (w1 := fun v => wb G (fun k => h (10 + k)) (fun k => h (40 + k)) v.1 v.2) (wa' := fun v => xw G h x v.1 wa w0 v.2 rd wr z jj lt) ⟨hx, hb, hml, hown, hts⟩ (mt_X3_becomeF l G (fun k => h (10 + k)) _ wn w1 (fun k => h (40 + k))) (cwV 1 hts gX4_goBack_X3_become rfl rfl rfl ⟨rfl, hd_X3_become⟩ ⟨Nat.le_of_ble_eq_true rfl, Nat.le_of_ble_eq_true rfl⟩) hK hN hP hD hS hA [3, 4, 5, 6, 7, 8, 9, 10, 27, 28, 29, 30, 31, 32, 33, 34] (yc_now_im1 _ _ _ _ _ _ _ _ _ _ _ _) (by decide) (yf_now_im1 _ _ _ _ _ _ _ _ _ _ _ _) (fun _ => rfl) (fun v => yo_now_im1 _ _ _ _ _ _ _ _ _ _ _ _ v) (fun v => ym_now_im1 _ _ _ _ _ _ _ _ _ _ _ _ v) 0 3 rfl rfl rfl hl.1 rfl (Nat.le_of_ble_eq_true rfl) ⟨Nat.zero_le _, Nat.zero_le _⟩ dX4_goBack_34 (fun u34 H locs hw34 hP hD hS => ?_)
          obtain ⟨w34, rfl, hcp34⟩ := hw34
          have hP : PP G (xw G h x w34 wa w0 w1 rd wr z jj lt) H := hP
          have hD : va_D A (xw G h x w34 wa w0 w1 rd wr z jj lt) := hD
          refine lv_aload_n hx hb dX4_goBack_37 rfl (lv_at hl 0 rfl) ?_
          refine lv_iconst (v := nI 0) hx hb dX4_goBack_38 (by decide) ?_
          refine va_put (D := gD G) (ci := 4) (v := .int (nI 0)) (ty := .boolean) (C := RX4) (T := TX4) (N := 9) hx hb hts hiX4 tyX4 tyX4_ok nmX4 hown hK hP hD hS 0 (xp_0 _ _ _ _ _ _ _ _ _ _ _ _) rfl 7 (by decide) k48 (fun _ h9 => h9) rfl (tyX4_ok 7 (by decide)) (rfl) (rfl) (Nat.le_of_ble_eq_true rfl) dX4_goBack_39 (fun H locs hP hD hS => ?_)
          have hP : PP G (xw G h (oI x 7 (nI 0)) w34 wa w0 w1 rd wr z jj lt) H := hP
          have hD : va_D A (xw G h (oI x 7 (nI 0)) w34 wa w0 w1 rd wr z jj lt) := hD
          refine lv_aload_n hx hb dX4_goBack_42 rfl (lv_at hl 0 rfl) ?_
          refine va_get (D := gD G) (ci := 4) (v := .ref (h 10)) (C := RX4) (T := TX4) (N := 9) hx hb hts hiX4 hown hK hP 0 (xp_0 _ _ _ _ _ _ _ _ _ _ _ _) rfl 0 (by decide) k10 (fun _ h9 => h9) rfl dX4_goBack_43 ?_
          refine va_getN (D := gD G) (ci := 3) (v := .int (w34.1 0)) (C := RX3) (T := TX3) (N := 9) hx hb hts hiX3 hown hK hP 3 (xp_3 _ _ _ _ _ _ _ _ _ _ _ _) rfl 0 (by decide) k82 (fun _ h9 => h9) rfl dX4_goBack_46 ?_
          exact W.iret (v := w34.1 0) hx hb hr (fun t ht hW => ⟨⟨w34.1 0, (oI x 7 (nI 0), w34, wa, w0, w1, rd, wr, z, jj, lt), rfl, ⟨by rw [bacF, if_neg (show ¬ ¬ inR (nI 1) 2 = true from not_not_intro (inR_t (by omega) (by omega))), vN_n (j := 1) (by omega), if_neg (show ¬ sg.1 (40 + 1) = 0 from fun q => absurd (ImX_y hRX.2.2.2.2.2.2.2.1 c18).1 (by have q9 : sg.1 41 = 0 := q; omega))]; exact RepX_bac1 hRX hIS c18 hcp34, by rw [bacA, if_neg (show ¬ ¬ inR (nI 1) 2 = true from not_not_intro (inR_t (by omega) (by omega))), vN_n (j := 1) (by omega), if_neg (show ¬ sg.1 (40 + 1) = 0 from fun q => absurd (ImX_y hRX.2.2.2.2.2.2.2.1 c18).1 (by have q9 : sg.1 41 = 0 := q; omega))]; exact hcp34.1.trans (ImX_y hRX.2.2.2.2.2.2.2.1 c18).2.1⟩, show PP G (xw G h (oI x 7 (nI 0)) w34 wa w0 w1 rd wr z jj lt) t.heap by rw [ht]; exact hP⟩, hS.F ht⟩) hS.2.2 dX4_goBack_49
      · skip
        refine lv_ldc (v := (-1000000003 : Int32)) hx hb hown (hts (.constant RX4 148 (-1000000003)) (List.mem_of_getElem? (i := 3) rfl)) dX4_goBack_21 ?_
        exact W.iret (v := (-1000000003 : Int32)) hx hb hr (fun t ht hW => ⟨⟨(-1000000003 : Int32), (x, wn, wa, w0, w1, rd, wr, z, jj, lt), rfl, (by rcases (show i2 = 0 ∨ i2 = 1 by omega) with rfl | rfl; exact ⟨by rw [bacF, if_neg (show ¬ ¬ inR (nI 0) 2 = true from not_not_intro (inR_t (by omega) (by omega))), vN_n (j := 0) (by omega), if_pos (show sg.1 (40 + 0) = 0 from ImX_n hRX.2.2.2.2.2.2.1 c18)]; exact hRX, by rw [bacA, if_neg (show ¬ ¬ inR (nI 0) 2 = true from not_not_intro (inR_t (by omega) (by omega))), vN_n (j := 0) (by omega), if_pos (show sg.1 (40 + 0) = 0 from ImX_n hRX.2.2.2.2.2.2.1 c18)]⟩; exact ⟨by rw [bacF, if_neg (show ¬ ¬ inR (nI 1) 2 = true from not_not_intro (inR_t (by omega) (by omega))), vN_n (j := 1) (by omega), if_pos (show sg.1 (40 + 1) = 0 from ImX_n hRX.2.2.2.2.2.2.2.1 c18)]; exact hRX, by rw [bacA, if_neg (show ¬ ¬ inR (nI 1) 2 = true from not_not_intro (inR_t (by omega) (by omega))), vN_n (j := 1) (by omega), if_pos (show sg.1 (40 + 1) = 0 from ImX_n hRX.2.2.2.2.2.2.2.1 c18)]⟩), show PP G (xw G h x wn wa w0 w1 rd wr z jj lt) t.heap by rw [ht]; exact hP⟩, hS.F ht⟩) hS.2.2 dX4_goBack_23
    · skip
      refine lv_ldc (v := (-1000000001 : Int32)) hx hb hown (hts (.constant RX4 110 (-1000000001)) (List.mem_of_getElem? (i := 1) rfl)) dX4_goBack_9 ?_
      exact W.iret (v := (-1000000001 : Int32)) hx hb hr (fun t ht hW => ⟨⟨(-1000000001 : Int32), (x, wn, wa, w0, w1, rd, wr, z, jj, lt), rfl, ⟨by rw [bacF, if_pos (show ¬ inR i 2 = true from inR_f (by omega) (fun j hj => by first | exact hv_n1 (n := 2) (by omega) c1 j hj | exact (fun e => c6 (by rw [e]; exact (nI_ltI (a := j) (b := 2) (by omega) (by omega)).mpr hj))))]; exact hRX, by rw [bacA, if_pos (show ¬ inR i 2 = true from inR_f (by omega) (fun j hj => by first | exact hv_n1 (n := 2) (by omega) c1 j hj | exact (fun e => c6 (by rw [e]; exact (nI_ltI (a := j) (b := 2) (by omega) (by omega)).mpr hj))))]⟩, show PP G (xw G h x wn wa w0 w1 rd wr z jj lt) t.heap by rw [ht]; exact hP⟩, hS.F ht⟩) hS.2.2 dX4_goBack_11
set_option maxHeartbeats 1000000 in
set_option maxRecDepth 100000 in
theorem mt_X4_feedS (l : Launch) (G : gG) (h : Nat → Nat) (sz : Nat) (x : oS) (wn : oS) (wa : oS) (w0 : oS) (w1 : oS) (rd : oS) (wr : oS) (z : oS) (jj : Nat → Nat → Int64) (lt : Int64) (sg : pS) (zz : Nat → Nat → Int64) (a : Int32) (hIS : IS sg) (hRX : RepX x wn wa w0 w1 rd z jj sg zz) : Met l yX4_feed wsX4_feed ({ frames := 1, cells := 0, slots := 0, locals := 21 }) (preW G (xw G h x wn wa w0 w1 rd wr z jj lt) sz [.ref (h 0), .int a]) (va_Qi (fun (r : Int32) (v : oS × oS × oS × oS × oS × oS × oS × oS × (Nat → Nat → Int64) × Int64) => RpX v (feeF sg a) (zz) ∧ r = feeA sg a) (fun v t => PP G (xw G h v.1 v.2.1 v.2.2.1 v.2.2.2.1 v.2.2.2.2.1 v.2.2.2.2.2.1 v.2.2.2.2.2.2.1 v.2.2.2.2.2.2.2.1 v.2.2.2.2.2.2.2.2.1 v.2.2.2.2.2.2.2.2.2) t.heap) (va_A (xw G h x wn wa w0 w1 rd wr z jj lt) sz)) 0 0 (va_A (xw G h x wn wa w0 w1 rd wr z jj lt) sz) := by
  refine Met.ofW (cc := cX4_feed) (maxL := 2) (ret := (some .int)) (by decide) rfl ?_
  intro p e s m args below meth c s₁ B hml hv
  obtain ⟨ha, hsz, hP, hK, hN, hD0⟩ := hv
  subst ha
  have hx := B.exec
  have hb := B.bytes
  have hr := B.returns
  have hts := atoms_spec (ws := wsX4_feed) B.pre
  have hown : s.vm.findClass RX4 = some m.cls := findClass_of_methodNamed B.named
  have hlocks := B.notSynchronized
  subst hsz
  have hD := hD0.self (sz := s.heap.size)
  generalize hAe : va_A (xw G h x wn wa w0 w1 rd wr z jj lt) s.heap.size = A at hD ⊢
  have hA : ∀ q : Nat, s.heap.size ≤ q → A q := fun q h => by rw [← hAe]; exact Or.inr h
  clear hAe hD0
  have hS : va_S A s.heap s.heap [] := va_S.rf
  have hiX4 : ∀ w ∈ wsX40, w ∈ wsX4_feed := fun w h9 => List.mem_cons_of_mem _ (List.mem_append_left _ (List.mem_append_right _ (h9)))
  have k30 := hts (.fieldLink RX4 30 "WovenHistory" "reader" "LWovenHistory$Reader;") (List.mem_of_getElem? (i := 2) rfl)
  have hiX1 : ∀ w ∈ wsX10, w ∈ wsX4_feed := fun w h9 => List.mem_cons_of_mem _ (List.mem_append_right _ (h9))
  have k61 : (Cond.fieldLinkNest "WovenHistory" 61 "WovenHistory$Reader" "length" "I" "WovenHistory").before _ s = true := va_Nw.use (A := ([.ref (h 0), .int a] : List Value).toArray) rfl (hN.1 ("WovenHistory", 61, "WovenHistory$Reader", "length", "I") (List.mem_of_getElem? (i := 9) rfl))
  have hl := lv_entry ([.ref (h 0), .int a]) (n := 2) (Nat.le_of_ble_eq_true rfl)
  rw [lg_entry_eq]
  generalize (lg_sl ([.ref (h 0), .int a]) ++ List.replicate (2 - (lg_sl ([.ref (h 0), .int a])).length) Slot.unset).toArray = ls at hl ⊢
  have hl : lv_has ls 2 [(0, .ref (h 0)), (1, .int a)] := hl
  have hC := hRX.1
  have hic := hIS.ic
  have hv24 := hIS.1
  have hl120 := hIS.2.1
  have ho1 := hIS.2.2.1
  refine lv_iload_n hx hb dX4_feed_0 rfl (lv_at hl 1 rfl) ?_
  refine lv_if_lt (tgt := 11) hx hb dX4_feed_1 (by decide) (fun c1 => ?_) (fun c1 => ?_)
  · skip
    refine lv_ldc (v := (-1000000002 : Int32)) hx hb hown (hts (.constant RX4 56 (-1000000002)) (List.mem_of_getElem? (i := 1) rfl)) dX4_feed_11 ?_
    exact W.iret (v := (-1000000002 : Int32)) hx hb hr (fun t ht hW => ⟨⟨(-1000000002 : Int32), (x, wn, wa, w0, w1, rd, wr, z, jj, lt), rfl, ⟨by rw [feeF, if_pos (show ¬ inR a 256 = true from inR_f (by omega) (fun j hj => by first | exact le_n1 (n := 255) (by omega) c1 j (by omega) | exact le_n2 (n := 255) (by omega) c8 j (by omega)))]; exact hRX, by rw [feeA, if_pos (show ¬ inR a 256 = true from inR_f (by omega) (fun j hj => by first | exact le_n1 (n := 255) (by omega) c1 j (by omega) | exact le_n2 (n := 255) (by omega) c8 j (by omega)))]⟩, show PP G (xw G h x wn wa w0 w1 rd wr z jj lt) t.heap by rw [ht]; exact hP⟩, hS.F ht⟩) hS.2.2 dX4_feed_13
  · skip
    refine lv_iload_n hx hb dX4_feed_4 rfl (lv_at hl 1 rfl) ?_
    refine lv_sipush (v := nI 255) hx hb dX4_feed_5 (by decide) ?_
    refine lv_icmp_le (tgt := 14) hx hb dX4_feed_8 (by decide) (fun c8 => ?_) (fun c8 => ?_)
    · skip
      refine lv_aload_n hx hb dX4_feed_14 rfl (lv_at hl 0 rfl) ?_
      refine va_get (D := gD G) (ci := 4) (v := .ref (h 50)) (C := RX4) (T := TX4) (N := 9) hx hb hts hiX4 hown hK hP 0 (xp_0 _ _ _ _ _ _ _ _ _ _ _ _) rfl 4 (by decide) k30 (fun _ h9 => h9) rfl dX4_feed_15 ?_
      refine lv_iload_n hx hb dX4_feed_18 rfl (lv_at hl 1 rfl) ?_
      refine cWi (As := [.int a]) (rest := []) (S := oS × oS) (wa := xw G h x wn wa w0 w1 rd wr z jj lt) (wc := rv G (fun k => h (50 + k)) rd wr) (w1 := fun v => rv G (fun k => h (50 + k)) v.1 v.2) (wa' := fun v => xw G h x wn wa w0 w1 v.1 v.2 z jj lt) ⟨hx, hb, hml, hown, hts⟩ (mt_X1_addLetter l G (fun k => h (50 + k)) _ rd wr (sg.1 10) a (hRX.2.2.2.1) (hIS.2.2.2.2.2.1)) (cwV 1 hts gX4_feed_X1_addLetter rfl rfl rfl ⟨rfl, hd_X1_addLetter⟩ ⟨Nat.le_of_ble_eq_true rfl, Nat.le_of_ble_eq_true rfl⟩) hK hN hP hD hS hA [35, 36, 37, 38, 39, 40, 41, 42, 43, 44, 45, 46] (xc_r _ _ _ _ _ _ _ _ _ _ _ _) (by decide) (xf_r _ _ _ _ _ _ _ _ _ _ _ _) (fun _ => rfl) (fun v => xo_r _ _ _ _ _ _ _ _ _ _ _ _ v) (fun v => xm_r _ _ _ _ _ _ _ _ _ _ _ _ v) 0 1 rfl rfl rfl hl.1 rfl (Nat.le_of_ble_eq_true rfl) ⟨Nat.zero_le _, Nat.zero_le _⟩ dX4_feed_19 (fun r19 u19 H locs hw19 hP hD hS => ?_)
      rcases hw19 with ⟨hl19, rfl, rfl⟩ | ⟨hl19, rfl, rfl⟩
      · skip
        have hP : PP G (xw G h x wn wa w0 w1 rd wr z jj lt) H := hP
        have hD : va_D A (xw G h x wn wa w0 w1 rd wr z jj lt) := hD
        refine lv_if_eq (tgt := 35) hx hb dX4_feed_22 (by decide) (fun _ => ?_) (fun c9 => absurd (by decide) c9)
        refine lv_ldc (v := (-1000000004 : Int32)) hx hb hown (hts (.constant RX4 64 (-1000000004)) (List.mem_of_getElem? (i := 3) rfl)) dX4_feed_35 ?_
        exact W.iret (v := (-1000000004 : Int32)) hx hb hr (fun t ht hW => ⟨⟨(-1000000004 : Int32), (x, wn, wa, w0, w1, rd, wr, z, jj, lt), rfl, ⟨by rw [feeF, if_neg (show ¬ ¬ inR a 256 = true from not_not_intro (by obtain ⟨j9, hj9, e9⟩ := le_y (n := 255) (by omega) c1 c8; rw [e9]; exact inR_t (by omega) (by omega))), if_pos hl19]; exact hRX, by rw [feeA, if_neg (show ¬ ¬ inR a 256 = true from not_not_intro (by obtain ⟨j9, hj9, e9⟩ := le_y (n := 255) (by omega) c1 c8; rw [e9]; exact inR_t (by omega) (by omega))), if_pos hl19]⟩, show PP G (xw G h x wn wa w0 w1 rd wr z jj lt) t.heap by rw [ht]; exact hP⟩, hS.F ht⟩) hS.2.2 dX4_feed_37
      · skip
        have hP : PP G (xw G h x wn wa w0 w1 (oI (oA rd 0 (upd (rd.2 0) (sg.1 10) a)) 1 (nI ((sg.1 10) + 1))) wr z jj lt) H := hP
        have hD : va_D A (xw G h x wn wa w0 w1 (oI (oA rd 0 (upd (rd.2 0) (sg.1 10) a)) 1 (nI ((sg.1 10) + 1))) wr z jj lt) := hD
        refine lv_if_eq (tgt := 35) hx hb dX4_feed_22 (by decide) (fun c9 => absurd c9 (by decide)) (fun _ => ?_)
        refine lv_aload_n hx hb dX4_feed_25 rfl (lv_at hl 0 rfl) ?_
        refine va_get (D := gD G) (ci := 4) (v := .ref (h 50)) (C := RX4) (T := TX4) (N := 9) hx hb hts hiX4 hown hK hP 0 (xp_0 _ _ _ _ _ _ _ _ _ _ _ _) rfl 4 (by decide) k30 (fun _ h9 => h9) rfl dX4_feed_26 ?_
        refine va_getN (D := gD G) (ci := 1) (v := .int (nI ((sg.1 10) + 1))) (C := RX1) (T := TX1) (N := 10) hx hb hts hiX1 hown hK hP 35 (xp_35 _ _ _ _ _ _ _ _ _ _ _ _) rfl 1 (by decide) k61 (fun _ h9 => h9) rfl dX4_feed_29 ?_
        refine lv_goto (tgt := 37) hx hb dX4_feed_32 (by decide) ?_
        exact W.iret (v := nI ((sg.1 10) + 1)) hx hb hr (fun t ht hW => ⟨⟨nI ((sg.1 10) + 1), (x, wn, wa, w0, w1, oI (oA rd 0 (upd (rd.2 0) (sg.1 10) a)) 1 (nI ((sg.1 10) + 1)), wr, z, jj, lt), rfl, ⟨by rw [feeF, if_neg (show ¬ ¬ inR a 256 = true from not_not_intro (by obtain ⟨j9, hj9, e9⟩ := le_y (n := 255) (by omega) c1 c8; rw [e9]; exact inR_t (by omega) (by omega))), if_neg (show ¬ sg.1 10 = 240 by omega)]; exact RepX_fee hRX, by rw [feeA, if_neg (show ¬ ¬ inR a 256 = true from not_not_intro (by obtain ⟨j9, hj9, e9⟩ := le_y (n := 255) (by omega) c1 c8; rw [e9]; exact inR_t (by omega) (by omega))), if_neg (show ¬ sg.1 10 = 240 by omega)]⟩, show PP G (xw G h x wn wa w0 w1 (oI (oA rd 0 (upd (rd.2 0) (sg.1 10) a)) 1 (nI ((sg.1 10) + 1))) wr z jj lt) t.heap by rw [ht]; exact hP⟩, hS.F ht⟩) hS.2.2 dX4_feed_37
    · skip
      refine lv_ldc (v := (-1000000002 : Int32)) hx hb hown (hts (.constant RX4 56 (-1000000002)) (List.mem_of_getElem? (i := 1) rfl)) dX4_feed_11 ?_
      exact W.iret (v := (-1000000002 : Int32)) hx hb hr (fun t ht hW => ⟨⟨(-1000000002 : Int32), (x, wn, wa, w0, w1, rd, wr, z, jj, lt), rfl, ⟨by rw [feeF, if_pos (show ¬ inR a 256 = true from inR_f (by omega) (fun j hj => by first | exact le_n1 (n := 255) (by omega) c1 j (by omega) | exact le_n2 (n := 255) (by omega) c8 j (by omega)))]; exact hRX, by rw [feeA, if_pos (show ¬ inR a 256 = true from inR_f (by omega) (fun j hj => by first | exact le_n1 (n := 255) (by omega) c1 j (by omega) | exact le_n2 (n := 255) (by omega) c8 j (by omega)))]⟩, show PP G (xw G h x wn wa w0 w1 rd wr z jj lt) t.heap by rw [ht]; exact hP⟩, hS.F ht⟩) hS.2.2 dX4_feed_13
set_option maxHeartbeats 1000000 in
set_option maxRecDepth 100000 in
theorem mt_X4_forgetImagesF (l : Launch) (G : gG) (h : Nat → Nat) (sz : Nat) (x : oS) (wn : oS) (wa : oS) (w0 : oS) (w1 : oS) (rd : oS) (wr : oS) (z : oS) (jj : Nat → Nat → Int64) (lt : Int64) : Met l yX4_forgetImages wsX4_forgetImages ({ frames := 0, cells := 0, slots := 0, locals := 0 }) (preW G (xw G h x wn wa w0 w1 rd wr z jj lt) sz [.ref (h 0)]) (va_Qv (fun (v : oS × oS × oS × oS × oS × oS × oS × oS × (Nat → Nat → Int64) × Int64) => ∃ f3, v = (oA x 3 f3, wn, wa, w0, w1, rd, wr, z, jj, lt) ∧ ∀ i, i < 2 → f3 i = 0) (fun v t => PP G (xw G h v.1 v.2.1 v.2.2.1 v.2.2.2.1 v.2.2.2.2.1 v.2.2.2.2.2.1 v.2.2.2.2.2.2.1 v.2.2.2.2.2.2.2.1 v.2.2.2.2.2.2.2.2.1 v.2.2.2.2.2.2.2.2.2) t.heap) (va_A (xw G h x wn wa w0 w1 rd wr z jj lt) sz)) 0 0 (va_A (xw G h x wn wa w0 w1 rd wr z jj lt) sz) := by
  refine Met.ofW (cc := cX4_forgetImages) (maxL := 2) (ret := none) (by decide) rfl ?_
  intro p e s m args below meth c s₁ B hml hv
  obtain ⟨ha, hsz, hP, hK, hN, hD0⟩ := hv
  subst ha
  have hx := B.exec
  have hb := B.bytes
  have hr := B.returns
  have hts := atoms_spec (ws := wsX4_forgetImages) B.pre
  have hown : s.vm.findClass RX4 = some m.cls := findClass_of_methodNamed B.named
  have hlocks := B.notSynchronized
  subst hsz
  have hD := hD0.self (sz := s.heap.size)
  generalize hAe : va_A (xw G h x wn wa w0 w1 rd wr z jj lt) s.heap.size = A at hD ⊢
  have hA : ∀ q : Nat, s.heap.size ≤ q → A q := fun q h => by rw [← hAe]; exact Or.inr h
  clear hAe hD0
  have hS : va_S A s.heap s.heap [] := va_S.rf
  have hiX4 : ∀ w ∈ wsX40, w ∈ wsX4_forgetImages := fun w h9 => List.mem_cons_of_mem _ (List.mem_append_right _ (h9))
  have k23 := hts (.fieldLink RX4 23 "WovenHistory" "kept" "[Z") (List.mem_of_getElem? (i := 1) rfl)
  have hl := lv_entry ([.ref (h 0)]) (n := 2) (Nat.le_of_ble_eq_true rfl)
  rw [lg_entry_eq]
  generalize (lg_sl ([.ref (h 0)]) ++ List.replicate (2 - (lg_sl ([.ref (h 0)])).length) Slot.unset).toArray = ls at hl ⊢
  have hl : lv_has ls 2 [(0, .ref (h 0))] := hl
  refine lv_iconst (v := nI 0) hx hb dX4_forgetImages_0 (by decide) ?_
  refine lv_istore_n (lv' := [(1, .int (nI 0)), (0, .ref (h 0))]) hx hb dX4_forgetImages_1 rfl hl (by decide) rfl (fun ls hl => ?_)
  have LP2 : ∀ (n2m : Nat), ∀ (k : Nat) (f3 : Nat → Int32) (hk : k ≤ 2) (hf3 : ∀ i, i < k → f3 i = 0), (2 - k < n2m) → ∀ (H : Heap) (locs : List Loc) (ls : Array Slot), PP G (xw G h (oA x 3 f3) wn wa w0 w1 rd wr z jj lt) H → va_D A (xw G h (oA x 3 f3) wn wa w0 w1 rd wr z jj lt) → va_S A s.heap H locs → lv_has ls 2 [(0, .ref (h 0)), (1, .int (nI k))] → W p l e (headSpec wsX4_forgetImages ({ frames := 0, cells := 0, slots := 0, locals := 0 })).room s m ([.ref (h 0)] : List Value).toArray below meth c H locs 0 0 (MQ below (va_Qv (fun (v : oS × oS × oS × oS × oS × oS × oS × oS × (Nat → Nat → Int64) × Int64) => ∃ f3, v = (oA x 3 f3, wn, wa, w0, w1, rd, wr, z, jj, lt) ∧ ∀ i, i < 2 → f3 i = 0) (fun v t => PP G (xw G h v.1 v.2.1 v.2.2.1 v.2.2.2.1 v.2.2.2.2.1 v.2.2.2.2.2.1 v.2.2.2.2.2.2.1 v.2.2.2.2.2.2.2.1 v.2.2.2.2.2.2.2.2.1 v.2.2.2.2.2.2.2.2.2) t.heap) A) ([.ref (h 0)] : List Value).toArray s 0 0 A) (F0 m 2 ls []) := by
    intro n2m
    induction n2m with
    | zero => intro k f3 hk hf3 hmu H locs ls hP hD hS hl; exact absurd hmu (Nat.not_lt_zero _)
    | succ n2m ih2 =>
      intro k f3 hk hf3 hmu H locs ls hP hD hS hl
      refine lv_iload_n hx hb dX4_forgetImages_2 rfl (lv_at hl 1 rfl) ?_
      refine lv_iconst (v := nI 2) hx hb dX4_forgetImages_3 (by decide) ?_
      refine lv_icmp_ge (tgt := 20) hx hb dX4_forgetImages_4 (by decide) (fun c4 => ?_) (fun c4 => ?_)
      · skip
        have n4 : 2 ≤ k := (nI_leI (a := 2) (b := k) (by omega) (by omega)).mp c4
        exact W.vret hx hb hr (fun t ht hW => ⟨⟨(oA x 3 f3, wn, wa, w0, w1, rd, wr, z, jj, lt), rfl, ⟨_, rfl, (fun i h9 => hf3 i (by omega))⟩, show PP G (xw G h (oA x 3 f3) wn wa w0 w1 rd wr z jj lt) t.heap by rw [ht]; exact hP⟩, hS.F ht⟩) hS.2.2 dX4_forgetImages_20
      · skip
        have n4 : ¬ (2 ≤ k) := fun q9 => c4 ((nI_leI (a := 2) (b := k) (by omega) (by omega)).mpr q9)
        refine lv_aload_n hx hb dX4_forgetImages_7 rfl (lv_at hl 0 rfl) ?_
        refine va_get (D := gD G) (ci := 4) (v := .ref (h 3)) (C := RX4) (T := TX4) (N := 9) hx hb hts hiX4 hown hK hP 0 (xp_0 _ _ _ _ _ _ _ _ _ _ _ _) rfl 3 (by decide) k23 (fun _ h9 => h9) rfl dX4_forgetImages_8 ?_
        refine lv_iload_n hx hb dX4_forgetImages_11 rfl (lv_at hl 1 rfl) ?_
        refine lv_iconst (v := nI 0) hx hb dX4_forgetImages_12 (by decide) ?_
        refine zastN (f := f3) (n := 2) (k := k) hx hb hK hP hD hS 2 (xp_2 _ _ _ _ _ _ _ _ _ _ _ _) rfl (by omega) (Or.inl rfl) dX4_forgetImages_13 (fun H locs hP hD hS => ?_)
        rw [xs_2] at hP hD
        have hP : PP G (xw G h (oA (oA x 3 f3) 3 (upd f3 k (nI 0))) wn wa w0 w1 rd wr z jj lt) H := hP
        have hD : va_D A (xw G h (oA (oA x 3 f3) 3 (upd f3 k (nI 0))) wn wa w0 w1 rd wr z jj lt) := hD
        refine lv_iinc (v := nI (k + 1)) (lv' := [(1, .int (nI (k + 1))), (0, .ref (h 0))]) hx hb dX4_forgetImages_14 hl (k := 1) rfl (nI_1 k) (by decide) rfl (fun ls hl => ?_)
        refine lv_goto (tgt := 2) hx hb dX4_forgetImages_17 (by decide) ?_
        exact ih2 (k + 1) (upd f3 k (nI 0)) (by first | assumption | omega) (upd_all (Q := fun q => q = 0) hf3 rfl) (by omega) _ _ ls hP hD hS (lv_sub hl [1, 0] rfl)
  exact LP2 (2 - 0 + 1) 0 (x.2 3) (by first | assumption | omega) (fun i h9 => absurd h9 (Nat.not_lt_zero i)) (Nat.lt_succ_self _) _ _ ls hP hD hS (lv_sub hl [1, 0] rfl)
set_option maxHeartbeats 1000000 in
set_option maxRecDepth 100000 in
theorem mt_X4_weaveS (l : Launch) (G : gG) (h : Nat → Nat) (sz : Nat) (x : oS) (wn : oS) (wa : oS) (w0 : oS) (w1 : oS) (rd : oS) (wr : oS) (z : oS) (jj : Nat → Nat → Int64) (lt : Int64) (sg : pS) (zz : Nat → Nat → Int64) (tx : Nat → Int32) (hIS : IS sg) (hRX : RepX x wn wa w0 w1 rd z jj sg zz) (htx : rwE (rd.2 0) tx (sg.1 10)) (hlet : ∀ i, i < sg.1 10 → ∃ j, j ≤ 255 ∧ tx i = nI j) : Met l yX4_weave wsX4_weave ({ frames := 6, cells := 0, slots := 0, locals := 138 }) (preW G (xw G h x wn wa w0 w1 rd wr z jj lt) sz [.ref (h 0)]) (va_Qi (fun (r : Int32) (v : oS × oS × oS × oS × oS × oS × oS × oS × (Nat → Nat → Int64) × Int64) => ∃ res, pEv tx (sg.1 10) true s0 res ∧ RpX v (wovF sg res) zz ∧ (res.1 = 0 → res.2.2.1 15 ≤ 24 ∧ res.2.2.1 19 ≤ 120 ∧ parOK (res.2.2.2 16) (res.2.2.1 15)) ∧ r = wovA res) (fun v t => PP G (xw G h v.1 v.2.1 v.2.2.1 v.2.2.2.1 v.2.2.2.2.1 v.2.2.2.2.2.1 v.2.2.2.2.2.2.1 v.2.2.2.2.2.2.2.1 v.2.2.2.2.2.2.2.2.1 v.2.2.2.2.2.2.2.2.2) t.heap) (va_A (xw G h x wn wa w0 w1 rd wr z jj lt) sz)) 0 0 (va_A (xw G h x wn wa w0 w1 rd wr z jj lt) sz) := by
  refine Met.ofW (cc := cX4_weave) (maxL := 2) (ret := (some .int)) (by decide) rfl ?_
  intro p e s m args below meth c s₁ B hml hv
  obtain ⟨ha, hsz, hP, hK, hN, hD0⟩ := hv
  subst ha
  have hx := B.exec
  have hb := B.bytes
  have hr := B.returns
  have hts := atoms_spec (ws := wsX4_weave) B.pre
  have hown : s.vm.findClass RX4 = some m.cls := findClass_of_methodNamed B.named
  have hlocks := B.notSynchronized
  subst hsz
  have hD := hD0.self (sz := s.heap.size)
  generalize hAe : va_A (xw G h x wn wa w0 w1 rd wr z jj lt) s.heap.size = A at hD ⊢
  have hA : ∀ q : Nat, s.heap.size ≤ q → A q := fun q h => by rw [← hAe]; exact Or.inr h
  clear hAe hD0
  have hS : va_S A s.heap s.heap [] := va_S.rf
  have hiX4 : ∀ w ∈ wsX40, w ∈ wsX4_weave := fun w h9 => List.mem_cons_of_mem _ (List.mem_append_left _ (List.mem_append_left _ (List.mem_append_right _ (h9))))
  have k30 := hts (.fieldLink RX4 30 "WovenHistory" "reader" "LWovenHistory$Reader;") (List.mem_of_getElem? (i := 1) rfl)
  have hiX1 : ∀ w ∈ wsX10, w ∈ wsX4_weave := fun w h9 => List.mem_cons_of_mem _ (List.mem_append_left _ (List.mem_append_right _ (h9)))
  have k69 : (Cond.fieldLinkNest "WovenHistory" 69 "WovenHistory$Reader" "faultAt" "I" "WovenHistory").before _ s = true := va_Nw.use (A := ([.ref (h 0)] : List Value).toArray) rfl (hN.1 ("WovenHistory", 69, "WovenHistory$Reader", "faultAt", "I") (List.mem_of_getElem? (i := 10) rfl))
  have k52 := hts (.fieldLink RX4 52 "WovenHistory" "latestFaultAt" "I") (List.mem_of_getElem? (i := 2) rfl)
  have k10 := hts (.fieldLink RX4 10 "WovenHistory" "now" "LWovenHistory$Weave;") (List.mem_of_getElem? (i := 3) rfl)
  have k72 : (Cond.fieldLinkNest "WovenHistory" 72 "WovenHistory$Reader" "woven" "LWovenHistory$Weave;" "WovenHistory").before _ s = true := va_Nw.use (A := ([.ref (h 0)] : List Value).toArray) rfl (hN.1 ("WovenHistory", 72, "WovenHistory$Reader", "woven", "LWovenHistory$Weave;") (List.mem_of_getElem? (i := 11) rfl))
  have k48 := hts (.fieldLink RX4 48 "WovenHistory" "opened" "Z") (List.mem_of_getElem? (i := 4) rfl)
  have hiX3 : ∀ w ∈ wsX30, w ∈ wsX4_weave := fun w h9 => List.mem_cons_of_mem _ (List.mem_append_right _ (h9))
  have k82 : (Cond.fieldLinkNest "WovenHistory" 82 "WovenHistory$Weave" "versions" "I" "WovenHistory").before _ s = true := va_Nw.use (A := ([.ref (h 0)] : List Value).toArray) rfl (hN.1 ("WovenHistory", 82, "WovenHistory$Weave", "versions", "I") (List.mem_of_getElem? (i := 12) rfl))
  have hl := lv_entry ([.ref (h 0)]) (n := 2) (Nat.le_of_ble_eq_true rfl)
  rw [lg_entry_eq]
  generalize (lg_sl ([.ref (h 0)]) ++ List.replicate (2 - (lg_sl ([.ref (h 0)])).length) Slot.unset).toArray = ls at hl ⊢
  have hl : lv_has ls 2 [(0, .ref (h 0))] := hl
  have hC := hRX.1
  have hic := hIS.ic
  have hv24 := hIS.1
  have hl120 := hIS.2.1
  have ho1 := hIS.2.2.1
  refine lv_aload_n hx hb dX4_weave_0 rfl (lv_at hl 0 rfl) ?_
  refine va_get (D := gD G) (ci := 4) (v := .ref (h 50)) (C := RX4) (T := TX4) (N := 9) hx hb hts hiX4 hown hK hP 0 (xp_0 _ _ _ _ _ _ _ _ _ _ _ _) rfl 4 (by decide) k30 (fun _ h9 => h9) rfl dX4_weave_1 ?_
  refine cWi (As := []) (rest := []) (S := oS × oS) (wa := xw G h x wn wa w0 w1 rd wr z jj lt) (wc := rv G (fun k => h (50 + k)) rd wr) (w1 := fun v => rv G (fun k => h (50 + k)) v.1 v.2) (wa' := fun v => xw G h x wn wa w0 w1 v.1 v.2 z jj lt) ⟨hx, hb, hml, hown, hts⟩ (mt_X1_readAll l G (fun k => h (50 + k)) _ rd wr (sg.1 10) tx (hRX.2.2.2.1) (hIS.2.2.2.2.2.1) (htx) (hlet)) (cwV 0 hts gX4_weave_X1_readAll rfl rfl rfl ⟨rfl, hd_X1_readAll⟩ ⟨Nat.le_of_ble_eq_true rfl, Nat.le_of_ble_eq_true rfl⟩) hK hN hP hD hS hA [35, 36, 37, 38, 39, 40, 41, 42, 43, 44, 45, 46] (xc_r _ _ _ _ _ _ _ _ _ _ _ _) (by decide) (xf_r _ _ _ _ _ _ _ _ _ _ _ _) (fun _ => rfl) (fun v => xo_r _ _ _ _ _ _ _ _ _ _ _ _ v) (fun v => xm_r _ _ _ _ _ _ _ _ _ _ _ _ v) 0 1 rfl rfl rfl hl.1 rfl (Nat.le_of_ble_eq_true rfl) ⟨Nat.zero_le _, Nat.zero_le _⟩ dX4_weave_4 (fun r4 u4 H locs hw4 hP hD hS => ?_)
  obtain ⟨q4, p4, rs4, rfl, hEv4, hl4, h44, rfl, ⟨n4, m4, en4, hn4, em4, hm4⟩, hF4, hG4, hr44⟩ := hw4
  have hP : PP G (xw G h x wn wa w0 w1 q4 p4 z jj lt) H := hP
  have hD : va_D A (xw G h x wn wa w0 w1 q4 p4 z jj lt) := hD
  refine lv_istore_n (lv' := [(1, .int (nI (rs4.1))), (0, .ref (h 0))]) hx hb dX4_weave_7 rfl hl (by decide) rfl (fun ls hl => ?_)
  refine lv_aload_n hx hb dX4_weave_8 rfl (lv_at hl 1 rfl) ?_
  refine lv_aload_n hx hb dX4_weave_9 rfl (lv_at hl 1 rfl) ?_
  refine va_get (D := gD G) (ci := 4) (v := .ref (h 50)) (C := RX4) (T := TX4) (N := 9) hx hb hts hiX4 hown hK hP 0 (xp_0 _ _ _ _ _ _ _ _ _ _ _ _) rfl 4 (by decide) k30 (fun _ h9 => h9) rfl dX4_weave_10 ?_
  refine va_getN (D := gD G) (ci := 1) (v := .int (q4.1 5)) (C := RX1) (T := TX1) (N := 10) hx hb hts hiX1 hown hK hP 35 (xp_35 _ _ _ _ _ _ _ _ _ _ _ _) rfl 5 (by decide) k69 (fun _ h9 => h9) rfl dX4_weave_13 ?_
  refine va_put (D := gD G) (ci := 4) (v := .int (q4.1 5)) (ty := .int) (C := RX4) (T := TX4) (N := 9) hx hb hts hiX4 tyX4 tyX4_ok nmX4 hown hK hP hD hS 0 (xp_0 _ _ _ _ _ _ _ _ _ _ _ _) rfl 8 (by decide) k52 (fun _ h9 => h9) rfl (tyX4_ok 8 (by decide)) (rfl) (rfl) (Nat.le_of_ble_eq_true rfl) dX4_weave_16 (fun H locs hP hD hS => ?_)
  have hP : PP G (xw G h (oI x 8 (q4.1 5)) wn wa w0 w1 q4 p4 z jj lt) H := hP
  have hD : va_D A (xw G h (oI x 8 (q4.1 5)) wn wa w0 w1 q4 p4 z jj lt) := hD
  refine lv_iload_n hx hb dX4_weave_19 rfl (lv_at hl 0 rfl) ?_
  refine lv_if_eq (tgt := 28) hx hb dX4_weave_20 (by decide) (fun c20 => ?_) (fun c20 => ?_)
  · skip
    have n20 : rs4.1 = 0 := (nI_eq (a := rs4.1) (b := 0) (by omega) (by omega)).mp c20
    refine lv_aload_n hx hb dX4_weave_28 rfl (lv_at hl 1 rfl) ?_
    refine va_get (D := gD G) (ci := 4) (v := .ref (h 10)) (C := RX4) (T := TX4) (N := 9) hx hb hts hiX4 hown hK hP 0 (xp_0 _ _ _ _ _ _ _ _ _ _ _ _) rfl 0 (by decide) k10 (fun _ h9 => h9) rfl dX4_weave_29 ?_
    refine lv_aload_n hx hb dX4_weave_32 rfl (lv_at hl 1 rfl) ?_
    refine va_get (D := gD G) (ci := 4) (v := .ref (h 50)) (C := RX4) (T := TX4) (N := 9) hx hb hts hiX4 hown hK hP 0 (xp_0 _ _ _ _ _ _ _ _ _ _ _ _) rfl 4 (by decide) k30 (fun _ h9 => h9) rfl dX4_weave_33 ?_
    refine va_getN (D := gD G) (ci := 1) (v := .ref (h 60)) (C := RX1) (T := TX1) (N := 10) hx hb hts hiX1 hown hK hP 35 (xp_35 _ _ _ _ _ _ _ _ _ _ _ _) rfl 9 (by decide) k72 (fun _ h9 => h9) rfl dX4_weave_36 ?_
    refine cWv (As := [.ref (h 60)]) (rest := []) (S := oS × oS) (wa := xw G h (oI x 8 (q4.1 5)) wn wa w0 w1 q4 p4 z jj lt) (wc := wb G (fun k => h (10 + k)) (fun k => h (60 + k)) wn p4) (w1 := fun v => wb G (fun k => h (10 + k)) (fun k => h (60 + k)) v.1 v.2) (wa' := fun v => xw G h (oI x 8 (q4.1 5)) v.1 wa w0 w1 q4 v.2 z jj lt) ⟨hx, hb, hml, hown, hts⟩ (mt_X3_becomeF l G (fun k => h (10 + k)) _ wn p4 (fun k => h (60 + k))) (cwV 1 hts gX4_weave_X3_become rfl rfl rfl ⟨rfl, hd_X3_become⟩ ⟨Nat.le_of_ble_eq_true rfl, Nat.le_of_ble_eq_true rfl⟩) hK hN hP hD hS hA [3, 4, 5, 6, 7, 8, 9, 10, 39, 40, 41, 42, 43, 44, 45, 46] (yc_now_wov _ _ _ _ _ _ _ _ _ _ _ _) (by decide) (yf_now_wov _ _ _ _ _ _ _ _ _ _ _ _) (fun _ => rfl) (fun v => yo_now_wov _ _ _ _ _ _ _ _ _ _ _ _ v) (fun v => ym_now_wov _ _ _ _ _ _ _ _ _ _ _ _ v) 0 3 rfl rfl rfl hl.1 rfl (Nat.le_of_ble_eq_true rfl) ⟨Nat.zero_le _, Nat.zero_le _⟩ dX4_weave_39 (fun u39 H locs hw39 hP hD hS => ?_)
    obtain ⟨w39, rfl, hcp39⟩ := hw39
    have hP : PP G (xw G h (oI x 8 (q4.1 5)) w39 wa w0 w1 q4 p4 z jj lt) H := hP
    have hD : va_D A (xw G h (oI x 8 (q4.1 5)) w39 wa w0 w1 q4 p4 z jj lt) := hD
    refine lv_aload_n hx hb dX4_weave_42 rfl (lv_at hl 1 rfl) ?_
    refine lv_iconst (v := nI 0) hx hb dX4_weave_43 (by decide) ?_
    refine va_put (D := gD G) (ci := 4) (v := .int (nI 0)) (ty := .boolean) (C := RX4) (T := TX4) (N := 9) hx hb hts hiX4 tyX4 tyX4_ok nmX4 hown hK hP hD hS 0 (xp_0 _ _ _ _ _ _ _ _ _ _ _ _) rfl 7 (by decide) k48 (fun _ h9 => h9) rfl (tyX4_ok 7 (by decide)) (rfl) (rfl) (Nat.le_of_ble_eq_true rfl) dX4_weave_44 (fun H locs hP hD hS => ?_)
    have hP : PP G (xw G h (oI (oI x 8 (q4.1 5)) 7 (nI 0)) w39 wa w0 w1 q4 p4 z jj lt) H := hP
    have hD : va_D A (xw G h (oI (oI x 8 (q4.1 5)) 7 (nI 0)) w39 wa w0 w1 q4 p4 z jj lt) := hD
    refine lv_aload_n hx hb dX4_weave_47 rfl (lv_at hl 1 rfl) ?_
    refine cXv (As := []) (rest := []) (S := oS × oS × oS × oS × oS × oS × oS × oS × (Nat → Nat → Int64) × Int64) (wa := xw G h (oI (oI x 8 (q4.1 5)) 7 (nI 0)) w39 wa w0 w1 q4 p4 z jj lt) (w1 := fun v => xw G h v.1 v.2.1 v.2.2.1 v.2.2.2.1 v.2.2.2.2.1 v.2.2.2.2.2.1 v.2.2.2.2.2.2.1 v.2.2.2.2.2.2.2.1 v.2.2.2.2.2.2.2.2.1 v.2.2.2.2.2.2.2.2.2) ⟨hx, hb, hml, hown, hts⟩ (mt_X4_forgetImagesF l G h _ (oI (oI x 8 (q4.1 5)) 7 (nI 0)) w39 wa w0 w1 q4 p4 z jj lt) (cwV 0 hts gX4_weave_X4_forgetImages rfl rfl rfl ⟨rfl, hd_X4_forgetImages⟩ ⟨Nat.le_of_ble_eq_true rfl, Nat.le_of_ble_eq_true rfl⟩) hK hN hP hD hS hA (fun v => xm_x _ _ _ _ _ _ _ _ _ _ _ _ v) 0 4 rfl rfl rfl hl.1 rfl (Nat.le_of_ble_eq_true rfl) ⟨Nat.zero_le _, Nat.zero_le _⟩ dX4_weave_48 (fun u48 H locs hw48 hP hD hS => ?_)
    obtain ⟨f48, rfl, hf48⟩ := hw48
    have hP : PP G (xw G h (oA (oI (oI x 8 (q4.1 5)) 7 (nI 0)) 3 f48) w39 wa w0 w1 q4 p4 z jj lt) H := hP
    have hD : va_D A (xw G h (oA (oI (oI x 8 (q4.1 5)) 7 (nI 0)) 3 f48) w39 wa w0 w1 q4 p4 z jj lt) := hD
    refine lv_aload_n hx hb dX4_weave_51 rfl (lv_at hl 1 rfl) ?_
    refine va_get (D := gD G) (ci := 4) (v := .ref (h 10)) (C := RX4) (T := TX4) (N := 9) hx hb hts hiX4 hown hK hP 0 (xp_0 _ _ _ _ _ _ _ _ _ _ _ _) rfl 0 (by decide) k10 (fun _ h9 => h9) rfl dX4_weave_52 ?_
    refine va_getN (D := gD G) (ci := 3) (v := .int (w39.1 0)) (C := RX3) (T := TX3) (N := 9) hx hb hts hiX3 hown hK hP 3 (xp_3 _ _ _ _ _ _ _ _ _ _ _ _) rfl 0 (by decide) k82 (fun _ h9 => h9) rfl dX4_weave_55 ?_
    refine topE (hcp39.1.trans (en4)) ?_
    exact W.iret (v := nI n4) hx hb hr (fun t ht hW => ⟨⟨nI n4, (oA (oI (oI x 8 (q4.1 5)) 7 (nI 0)) 3 f48, w39, wa, w0, w1, q4, p4, z, jj, lt), rfl, ⟨rs4, hEv4, by rw [wovF, if_pos n20]; exact RepX_wov (t := rd) hRX hl4 (hG4 n20).1 rfl hf48 (hG4 n20).2 hcp39, (fun q9 => ⟨(hG4 q9).2.2.2.1, (hG4 q9).2.2.2.2.1, (hG4 q9).2.2.2.2.2.1⟩), by rw [wovA, if_pos n20]; exact en4.symm.trans (hG4 n20).2.1⟩, show PP G (xw G h (oA (oI (oI x 8 (q4.1 5)) 7 (nI 0)) 3 f48) w39 wa w0 w1 q4 p4 z jj lt) t.heap by rw [ht]; exact hP⟩, hS.F ht⟩) hS.2.2 dX4_weave_58
  · skip
    have n20 : ¬ (rs4.1 = 0) := fun q9 => c20 ((nI_eq (a := rs4.1) (b := 0) (by omega) (by omega)).mpr q9)
    refine lv_bipush (v := (-10 : Int32)) hx hb dX4_weave_23 (by decide) ?_
    refine lv_iload_n hx hb dX4_weave_25 rfl (lv_at hl 0 rfl) ?_
    refine lv_isub hx hb dX4_weave_26 ?_
    exact W.iret (v := (-10 : Int32) - (nI (rs4.1))) hx hb hr (fun t ht hW => ⟨⟨(-10 : Int32) - (nI (rs4.1)), (oI x 8 (q4.1 5), wn, wa, w0, w1, q4, p4, z, jj, lt), rfl, ⟨rs4, hEv4, by rw [wovF, if_neg n20]; exact RepX_bad hRX hl4 (hF4 n20) rfl rfl, (fun q9 => absurd q9 n20), by rw [wovA, if_neg n20]⟩, show PP G (xw G h (oI x 8 (q4.1 5)) wn wa w0 w1 q4 p4 z jj lt) t.heap by rw [ht]; exact hP⟩, hS.F ht⟩) hS.2.2 dX4_weave_27
