/-! Sheets and Reader: what their tests tell -/
theorem nI_of1 {x : Int32} (h : ¬ x < 0) : ∃ j, j < 2147483648 ∧ x = nI j := by
  obtain ⟨j, h1, h2⟩ := nI_of h
  exact ⟨j, h1, h2⟩
theorem fw_y {i n : Int32} {q : Nat} (hq : q ≤ 40) (h0 : ¬ i < 0) (h1 : ¬ n < 0) (h2 : ¬ nI q < i) (h3 : n ≤ nI q - i) : ∃ ji nn, i = nI ji ∧ n = nI nn ∧ ji + nn ≤ q := by
  obtain ⟨ji, a1, rfl⟩ := nI_of1 h0
  obtain ⟨nn, a2, rfl⟩ := nI_of1 h1
  have hj : ji ≤ q := by
    rcases Nat.lt_or_ge q ji with h | h
    · exact absurd ((nI_ltI (a := q) (b := ji) (by omega) (by omega)).mpr h) h2
    · exact h
  refine ⟨ji, nn, rfl, rfl, ?_⟩
  rw [pk_sub hj] at h3
  have := (nI_leI (a := nn) (b := q - ji) (by omega) (by omega)).mp h3
  omega
theorem fw_n {i n : Int32} {q : Nat} (hq : q ≤ 40) (h : i < 0 ∨ n < 0 ∨ nI q < i ∨ (¬ i < 0 ∧ ¬ nI q < i ∧ ¬ n ≤ nI q - i)) : ¬ ∃ ji nn, i = nI ji ∧ n = nI nn ∧ ji + nn ≤ q := by
  rintro ⟨ji, nn, rfl, rfl, hs⟩
  rcases h with h | h | h | ⟨h0, h1, h⟩
  · exact nI_pos (by omega) h
  · exact nI_pos (by omega) h
  · have := (nI_ltI (a := q) (b := ji) (by omega) (by omega)).mp h; omega
  · apply h
    rw [pk_sub (by omega)]
    exact (nI_leI (a := nn) (b := q - ji) (by omega) (by omega)).mpr (by omega)

set_option maxHeartbeats 1000000 in
set_option maxRecDepth 100000 in
theorem mt_X2_hasNumber (l : Launch) (G : gG) (h : Nat → Nat) (z : oS) (jj : Nat → Nat → Int64) (x : Int32) : Met l yX2_hasNumber wsX2_hasNumber ({ frames := 0, cells := 0, slots := 0, locals := 0 }) (preR G (sv G h z jj) [.ref (h 0), .int x]) (vp_Si (fun r : Int32 => (r = 1 ∧ ∃ j, j < 4 ∧ x = nI j) ∨ (r = 0 ∧ ∀ j, j < 4 → x ≠ nI j))) 0 0 (fun _ => False) := by
  refine Met.ofW (cc := cX2_hasNumber) (maxL := 2) (ret := (some .boolean)) (by decide) rfl ?_
  intro p e s m args below meth c s₁ B hml hv
  obtain ⟨ha, hP, hK, hN⟩ := hv
  subst ha
  have hx := B.exec
  have hb := B.bytes
  have hr := B.returns
  have hts := atoms_spec (ws := wsX2_hasNumber) B.pre
  have hown : s.vm.findClass RX2 = some m.cls := findClass_of_methodNamed B.named
  have hlocks := B.notSynchronized
  have hl := lv_entry ([.ref (h 0), .int x]) (n := 2) (Nat.le_of_ble_eq_true rfl)
  rw [lg_entry_eq]
  generalize (lg_sl ([.ref (h 0), .int x]) ++ List.replicate (2 - (lg_sl ([.ref (h 0), .int x])).length) Slot.unset).toArray = ls at hl ⊢
  have hl : lv_has ls 2 [(0, .ref (h 0)), (1, .int x)] := hl
  refine lv_iload_n hx hb dX2_hasNumber_0 rfl (lv_at hl 1 rfl) ?_
  refine lv_if_lt (tgt := 13) hx hb dX2_hasNumber_1 (by decide) (fun c1 => ?_) (fun c1 => ?_)
  · skip
    refine lv_iconst (v := nI 0) hx hb dX2_hasNumber_13 (by decide) ?_
    exact W.zret (v := nI 0) hx hb hr (by decide) (fun t ht hW => ⟨nI 0, rfl, by first | exact Or.inl ⟨rfl, hv_y (n := 4) (by omega) (by assumption) (by assumption)⟩ | exact Or.inr ⟨rfl, hv_n1 (n := 4) (by omega) (by assumption)⟩ | exact Or.inr ⟨rfl, hv_n2 (n := 4) (by omega) (by assumption)⟩, ht⟩) (fun _ h9 => by cases h9) dX2_hasNumber_14
  · skip
    refine lv_iload_n hx hb dX2_hasNumber_4 rfl (lv_at hl 1 rfl) ?_
    refine lv_iconst (v := nI 4) hx hb dX2_hasNumber_5 (by decide) ?_
    refine lv_icmp_ge (tgt := 13) hx hb dX2_hasNumber_6 (by decide) (fun c6 => ?_) (fun c6 => ?_)
    · skip
      refine lv_iconst (v := nI 0) hx hb dX2_hasNumber_13 (by decide) ?_
      exact W.zret (v := nI 0) hx hb hr (by decide) (fun t ht hW => ⟨nI 0, rfl, by first | exact Or.inl ⟨rfl, hv_y (n := 4) (by omega) (by assumption) (by assumption)⟩ | exact Or.inr ⟨rfl, hv_n1 (n := 4) (by omega) (by assumption)⟩ | exact Or.inr ⟨rfl, hv_n2 (n := 4) (by omega) (by assumption)⟩, ht⟩) (fun _ h9 => by cases h9) dX2_hasNumber_14
    · skip
      refine lv_iconst (v := nI 1) hx hb dX2_hasNumber_9 (by decide) ?_
      refine lv_goto (tgt := 14) hx hb dX2_hasNumber_10 (by decide) ?_
      exact W.zret (v := nI 1) hx hb hr (by decide) (fun t ht hW => ⟨nI 1, rfl, by first | exact Or.inl ⟨rfl, hv_y (n := 4) (by omega) (by assumption) (by assumption)⟩ | exact Or.inr ⟨rfl, hv_n1 (n := 4) (by omega) (by assumption)⟩ | exact Or.inr ⟨rfl, hv_n2 (n := 4) (by omega) (by assumption)⟩, ht⟩) (fun _ h9 => by cases h9) dX2_hasNumber_14
set_option maxHeartbeats 1000000 in
set_option maxRecDepth 100000 in
theorem mt_X2_countThere (l : Launch) (G : gG) (h : Nat → Nat) (z : oS) (jj : Nat → Nat → Int64) : Met l yX2_countThere wsX2_countThere ({ frames := 0, cells := 0, slots := 0, locals := 0 }) (preR G (sv G h z jj) [.ref (h 0)]) (vp_Si (fun r : Int32 => True)) 0 0 (fun _ => False) := by
  refine Met.ofW (cc := cX2_countThere) (maxL := 3) (ret := (some .int)) (by decide) rfl ?_
  intro p e s m args below meth c s₁ B hml hv
  obtain ⟨ha, hP, hK, hN⟩ := hv
  subst ha
  have hx := B.exec
  have hb := B.bytes
  have hr := B.returns
  have hts := atoms_spec (ws := wsX2_countThere) B.pre
  have hown : s.vm.findClass RX2 = some m.cls := findClass_of_methodNamed B.named
  have hlocks := B.notSynchronized
  have hiX2 : ∀ w ∈ wsX20, w ∈ wsX2_countThere := by decide +kernel
  have k16 := hts (.fieldLink RX2 16 "WovenHistory$Sheets" "sizes" "[I") (List.mem_of_getElem? (i := 1) rfl)
  have hl := lv_entry ([.ref (h 0)]) (n := 3) (Nat.le_of_ble_eq_true rfl)
  rw [lg_entry_eq]
  generalize (lg_sl ([.ref (h 0)]) ++ List.replicate (3 - (lg_sl ([.ref (h 0)])).length) Slot.unset).toArray = ls at hl ⊢
  have hl : lv_has ls 3 [(0, .ref (h 0))] := hl
  refine lv_iconst (v := nI 0) hx hb dX2_countThere_0 (by decide) ?_
  refine lv_istore_n (lv' := [(1, .int (nI 0)), (0, .ref (h 0))]) hx hb dX2_countThere_1 rfl hl (by decide) rfl (fun ls hl => ?_)
  refine lv_iconst (v := nI 0) hx hb dX2_countThere_2 (by decide) ?_
  refine lv_istore_n (lv' := [(2, .int (nI 0)), (1, .int (nI 0)), (0, .ref (h 0))]) hx hb dX2_countThere_3 rfl hl (by decide) rfl (fun ls hl => ?_)
  have LP4 : ∀ (n4m : Nat), ∀ (k : Nat) (y : Int32) (hk : k ≤ 4), (4 - k < n4m) → ∀ (ls : Array Slot), lv_has ls 3 [(0, .ref (h 0)), (1, .int y), (2, .int (nI k))] → W p l e (headSpec wsX2_countThere ({ frames := 0, cells := 0, slots := 0, locals := 0 })).room s m ([.ref (h 0)] : List Value).toArray below meth c s.heap [] 0 0 (MQ below (vp_Si (fun r : Int32 => True)) ([.ref (h 0)] : List Value).toArray s 0 0 (fun _ => False)) (F0 m 4 ls []) := by
    intro n4m
    induction n4m with
    | zero => intro k y hk hmu ls hl; exact absurd hmu (Nat.not_lt_zero _)
    | succ n4m ih4 =>
      intro k y hk hmu ls hl
      refine lv_iload_n hx hb dX2_countThere_4 rfl (lv_at hl 2 rfl) ?_
      refine lv_iconst (v := nI 4) hx hb dX2_countThere_5 (by decide) ?_
      refine lv_icmp_ge (tgt := 28) hx hb dX2_countThere_6 (by decide) (fun c6 => ?_) (fun c6 => ?_)
      · skip
        have n6 : 4 ≤ k := (nI_leI (a := 4) (b := k) (by omega) (by omega)).mp c6
        refine lv_iload_n hx hb dX2_countThere_28 rfl (lv_at hl 1 rfl) ?_
        exact W.iret (v := y) hx hb hr (fun t ht hW => ⟨y, rfl, by first | rfl | trivial | omega | assumption, ht⟩) (fun _ h9 => by cases h9) dX2_countThere_29
      · skip
        have n6 : ¬ (4 ≤ k) := fun q9 => c6 ((nI_leI (a := 4) (b := k) (by omega) (by omega)).mpr q9)
        refine lv_aload_n hx hb dX2_countThere_9 rfl (lv_at hl 0 rfl) ?_
        refine va_get (D := gD G) (ci := 2) (v := .ref (h 2)) (C := RX2) (T := TX2) (N := 2) hx hb hts hiX2 hown hK hP 0 rfl rfl 1 (by decide) k16 (fun _ h9 => h9) rfl dX2_countThere_10 ?_
        refine lv_iload_n hx hb dX2_countThere_13 rfl (lv_at hl 2 rfl) ?_
        refine ialdN (f := z.2 1) (n := 4) (k := k) hx hb hK hP 2 rfl rfl (by omega) dX2_countThere_14 ?_
        refine lv_iconst (v := (-1 : Int32)) hx hb dX2_countThere_15 (by decide) ?_
        refine lv_icmp_eq (tgt := 22) hx hb dX2_countThere_16 (by decide) (fun c16 => ?_) (fun c16 => ?_)
        · skip
          refine lv_iinc (v := nI (k + 1)) (lv' := [(2, .int (nI (k + 1))), (0, .ref (h 0)), (1, .int y)]) hx hb dX2_countThere_22 hl (k := 2) rfl (nI_1 k) (by decide) rfl (fun ls hl => ?_)
          refine lv_goto (tgt := 4) hx hb dX2_countThere_25 (by decide) ?_
          exact ih4 (k + 1) y (by first | assumption | omega) (by omega) ls (lv_sub hl [1, 2, 0] rfl)
        · skip
          refine lv_iinc (v := y + 1) (lv' := [(1, .int (y + 1)), (0, .ref (h 0)), (2, .int (nI k))]) hx hb dX2_countThere_19 hl (k := 1) rfl (rfl) (by decide) rfl (fun ls hl => ?_)
          refine lv_iinc (v := nI (k + 1)) (lv' := [(2, .int (nI (k + 1))), (1, .int (y + 1)), (0, .ref (h 0))]) hx hb dX2_countThere_22 hl (k := 2) rfl (nI_1 k) (by decide) rfl (fun ls hl => ?_)
          refine lv_goto (tgt := 4) hx hb dX2_countThere_25 (by decide) ?_
          exact ih4 (k + 1) (y + 1) (by first | assumption | omega) (by omega) ls (lv_sub hl [2, 1, 0] rfl)
  exact LP4 (4 - 0 + 1) 0 (nI 0) (by first | assumption | omega) (Nat.lt_succ_self _) ls (lv_sub hl [2, 1, 0] rfl)
set_option maxHeartbeats 1000000 in
set_option maxRecDepth 100000 in
theorem mt_X2_lay (l : Launch) (G : gG) (h : Nat → Nat) (sz : Nat) (z : oS) (jj : Nat → Nat → Int64) (j : Nat) (n1 : Int32) (hj4 : j < 4) : Met l yX2_lay wsX2_lay ({ frames := 0, cells := 0, slots := 0, locals := 0 }) (preW G (sv G h z jj) sz [.ref (h 0), .int (nI j), .int n1]) (va_Qv (fun (v : oS × (Nat → Nat → Int64)) => ∃ jj', v = (oA z 1 (upd (z.2 1) j n1), jj')) (fun v t => PP G (sv G h v.1 v.2) t.heap) (va_A (sv G h z jj) sz)) 0 0 (va_A (sv G h z jj) sz) := by
  refine Met.ofW (cc := cX2_lay) (maxL := 4) (ret := none) (by decide) rfl ?_
  intro p e s m args below meth c s₁ B hml hv
  obtain ⟨ha, hsz, hP, hK, hN, hD0⟩ := hv
  subst ha
  have hx := B.exec
  have hb := B.bytes
  have hr := B.returns
  have hts := atoms_spec (ws := wsX2_lay) B.pre
  have hown : s.vm.findClass RX2 = some m.cls := findClass_of_methodNamed B.named
  have hlocks := B.notSynchronized
  subst hsz
  have hD := hD0.self (sz := s.heap.size)
  generalize hAe : va_A (sv G h z jj) s.heap.size = A at hD ⊢
  have hA : ∀ q : Nat, s.heap.size ≤ q → A q := fun q h => by rw [← hAe]; exact Or.inr h
  clear hAe hD0
  have hS : va_S A s.heap s.heap [] := va_S.rf
  have hiX2 : ∀ w ∈ wsX20, w ∈ wsX2_lay := by decide +kernel
  have k11 := hts (.fieldLink RX2 11 "WovenHistory$Sheets" "numbers" "[[J") (List.mem_of_getElem? (i := 1) rfl)
  have k16 := hts (.fieldLink RX2 16 "WovenHistory$Sheets" "sizes" "[I") (List.mem_of_getElem? (i := 2) rfl)
  have hl := lv_entry ([.ref (h 0), .int (nI j), .int n1]) (n := 4) (Nat.le_of_ble_eq_true rfl)
  rw [lg_entry_eq]
  generalize (lg_sl ([.ref (h 0), .int (nI j), .int n1]) ++ List.replicate (4 - (lg_sl ([.ref (h 0), .int (nI j), .int n1])).length) Slot.unset).toArray = ls at hl ⊢
  have hl : lv_has ls 4 [(0, .ref (h 0)), (1, .int (nI j)), (2, .int n1)] := hl
  rcases (show j = 0 ∨ j = 1 ∨ j = 2 ∨ j = 3 by omega) with rfl | rfl | rfl | rfl
  · skip
    refine lv_iconst (v := nI 0) hx hb dX2_lay_0 (by decide) ?_
    refine lv_istore_n (lv' := [(3, .int (nI 0)), (0, .ref (h 0)), (1, .int (nI 0)), (2, .int n1)]) hx hb dX2_lay_1 rfl hl (by decide) rfl (fun ls hl => ?_)
    have LP2 : ∀ (n2m : Nat), ∀ (k : Nat) (jk : Nat → Nat → Int64) (hk : k ≤ 40), (40 - k < n2m) → ∀ (H : Heap) (locs : List Loc) (ls : Array Slot), PP G (sv G h z jk) H → va_D A (sv G h z jk) → va_S A s.heap H locs → lv_has ls 4 [(0, .ref (h 0)), (1, .int (nI 0)), (2, .int n1), (3, .int (nI k))] → W p l e (headSpec wsX2_lay ({ frames := 0, cells := 0, slots := 0, locals := 0 })).room s m ([.ref (h 0), .int (nI 0), .int n1] : List Value).toArray below meth c H locs 0 0 (MQ below (va_Qv (fun (v : oS × (Nat → Nat → Int64)) => ∃ jj', v = (oA z 1 (upd (z.2 1) 0 n1), jj')) (fun v t => PP G (sv G h v.1 v.2) t.heap) A) ([.ref (h 0), .int (nI 0), .int n1] : List Value).toArray s 0 0 A) (F0 m 2 ls []) := by
      intro n2m
      induction n2m with
      | zero => intro k jk hk hmu H locs ls hP hD hS hl; exact absurd hmu (Nat.not_lt_zero _)
      | succ n2m ih2 =>
        intro k jk hk hmu H locs ls hP hD hS hl
        refine lv_iload_n hx hb dX2_lay_2 rfl (lv_at hl 3 rfl) ?_
        refine lv_bipush (v := nI 40) hx hb dX2_lay_3 (by decide) ?_
        refine lv_icmp_ge (tgt := 23) hx hb dX2_lay_5 (by decide) (fun c5 => ?_) (fun c5 => ?_)
        · skip
          have n5 : 40 ≤ k := (nI_leI (a := 40) (b := k) (by omega) (by omega)).mp c5
          refine lv_aload_n hx hb dX2_lay_23 rfl (lv_at hl 0 rfl) ?_
          refine va_get (D := gD G) (ci := 2) (v := .ref (h 2)) (C := RX2) (T := TX2) (N := 2) hx hb hts hiX2 hown hK hP 0 rfl rfl 1 (by decide) k16 (fun _ h9 => h9) rfl dX2_lay_24 ?_
          refine lv_iload_n hx hb dX2_lay_27 rfl (lv_at hl 1 rfl) ?_
          refine lv_iload_n hx hb dX2_lay_28 rfl (lv_at hl 2 rfl) ?_
          refine iastN (f := z.2 1) (n := 4) (k := 0) hx hb hK hP hD hS 2 rfl rfl (by omega) dX2_lay_29 (fun H locs hP hD hS => ?_)
          have hP : PP G (sv G h (oA z 1 (upd (z.2 1) 0 n1)) jk) H := hP
          have hD : va_D A (sv G h (oA z 1 (upd (z.2 1) 0 n1)) jk) := hD
          exact W.vret hx hb hr (fun t ht hW => ⟨⟨(oA z 1 (upd (z.2 1) 0 n1), jk), rfl, ⟨_, rfl⟩, show PP G (sv G h (oA z 1 (upd (z.2 1) 0 n1)) jk) t.heap by rw [ht]; exact hP⟩, hS.F ht⟩) hS.2.2 dX2_lay_30
        · skip
          have n5 : ¬ (40 ≤ k) := fun q9 => c5 ((nI_leI (a := 40) (b := k) (by omega) (by omega)).mpr q9)
          refine lv_aload_n hx hb dX2_lay_8 rfl (lv_at hl 0 rfl) ?_
          refine va_get (D := gD G) (ci := 2) (v := .ref (h 1)) (C := RX2) (T := TX2) (N := 2) hx hb hts hiX2 hown hK hP 0 rfl rfl 0 (by decide) k11 (fun _ h9 => h9) rfl dX2_lay_9 ?_
          refine lv_iload_n hx hb dX2_lay_12 rfl (lv_at hl 1 rfl) ?_
          refine aaldJ (f := fun i => some (h (3 + i))) (n := 4) (k := 0) (b := h 3) hx hb hK hP 1 rfl rfl (by decide) rfl dX2_lay_13 ?_
          refine lv_iload_n hx hb dX2_lay_14 rfl (lv_at hl 3 rfl) ?_
          refine lv_lconst (v := 0) hx hb dX2_lay_15 (by decide) ?_
          refine lastN (f := jk 0) (n := 40) (k := k) hx hb hK hP hD hS 3 rfl rfl (by omega) dX2_lay_16 (fun H locs hP hD hS => ?_)
          have hP : PP G (sv G h z (va_up jk 0 (vp_updL (jk 0) k 0))) H := hP
          have hD : va_D A (sv G h z (va_up jk 0 (vp_updL (jk 0) k 0))) := hD
          refine lv_iinc (v := nI (k + 1)) (lv' := [(3, .int (nI (k + 1))), (0, .ref (h 0)), (1, .int (nI 0)), (2, .int n1)]) hx hb dX2_lay_17 hl (k := 3) rfl (nI_1 k) (by decide) rfl (fun ls hl => ?_)
          refine lv_goto (tgt := 2) hx hb dX2_lay_20 (by decide) ?_
          exact ih2 (k + 1) (va_up jk 0 (vp_updL (jk 0) k 0)) (by first | assumption | omega) (by omega) _ _ ls hP hD hS (lv_sub hl [1, 2, 3, 0] rfl)
    exact LP2 (40 - 0 + 1) 0 jj (by first | assumption | omega) (Nat.lt_succ_self _) _ _ ls hP hD hS (lv_sub hl [1, 2, 3, 0] rfl)
  · skip
    refine lv_iconst (v := nI 0) hx hb dX2_lay_0 (by decide) ?_
    refine lv_istore_n (lv' := [(3, .int (nI 0)), (0, .ref (h 0)), (1, .int (nI 1)), (2, .int n1)]) hx hb dX2_lay_1 rfl hl (by decide) rfl (fun ls hl => ?_)
    have LP2 : ∀ (n2m : Nat), ∀ (k : Nat) (jk : Nat → Nat → Int64) (hk : k ≤ 40), (40 - k < n2m) → ∀ (H : Heap) (locs : List Loc) (ls : Array Slot), PP G (sv G h z jk) H → va_D A (sv G h z jk) → va_S A s.heap H locs → lv_has ls 4 [(0, .ref (h 0)), (1, .int (nI 1)), (2, .int n1), (3, .int (nI k))] → W p l e (headSpec wsX2_lay ({ frames := 0, cells := 0, slots := 0, locals := 0 })).room s m ([.ref (h 0), .int (nI 1), .int n1] : List Value).toArray below meth c H locs 0 0 (MQ below (va_Qv (fun (v : oS × (Nat → Nat → Int64)) => ∃ jj', v = (oA z 1 (upd (z.2 1) 1 n1), jj')) (fun v t => PP G (sv G h v.1 v.2) t.heap) A) ([.ref (h 0), .int (nI 1), .int n1] : List Value).toArray s 0 0 A) (F0 m 2 ls []) := by
      intro n2m
      induction n2m with
      | zero => intro k jk hk hmu H locs ls hP hD hS hl; exact absurd hmu (Nat.not_lt_zero _)
      | succ n2m ih2 =>
        intro k jk hk hmu H locs ls hP hD hS hl
        refine lv_iload_n hx hb dX2_lay_2 rfl (lv_at hl 3 rfl) ?_
        refine lv_bipush (v := nI 40) hx hb dX2_lay_3 (by decide) ?_
        refine lv_icmp_ge (tgt := 23) hx hb dX2_lay_5 (by decide) (fun c5 => ?_) (fun c5 => ?_)
        · skip
          have n5 : 40 ≤ k := (nI_leI (a := 40) (b := k) (by omega) (by omega)).mp c5
          refine lv_aload_n hx hb dX2_lay_23 rfl (lv_at hl 0 rfl) ?_
          refine va_get (D := gD G) (ci := 2) (v := .ref (h 2)) (C := RX2) (T := TX2) (N := 2) hx hb hts hiX2 hown hK hP 0 rfl rfl 1 (by decide) k16 (fun _ h9 => h9) rfl dX2_lay_24 ?_
          refine lv_iload_n hx hb dX2_lay_27 rfl (lv_at hl 1 rfl) ?_
          refine lv_iload_n hx hb dX2_lay_28 rfl (lv_at hl 2 rfl) ?_
          refine iastN (f := z.2 1) (n := 4) (k := 1) hx hb hK hP hD hS 2 rfl rfl (by omega) dX2_lay_29 (fun H locs hP hD hS => ?_)
          have hP : PP G (sv G h (oA z 1 (upd (z.2 1) 1 n1)) jk) H := hP
          have hD : va_D A (sv G h (oA z 1 (upd (z.2 1) 1 n1)) jk) := hD
          exact W.vret hx hb hr (fun t ht hW => ⟨⟨(oA z 1 (upd (z.2 1) 1 n1), jk), rfl, ⟨_, rfl⟩, show PP G (sv G h (oA z 1 (upd (z.2 1) 1 n1)) jk) t.heap by rw [ht]; exact hP⟩, hS.F ht⟩) hS.2.2 dX2_lay_30
        · skip
          have n5 : ¬ (40 ≤ k) := fun q9 => c5 ((nI_leI (a := 40) (b := k) (by omega) (by omega)).mpr q9)
          refine lv_aload_n hx hb dX2_lay_8 rfl (lv_at hl 0 rfl) ?_
          refine va_get (D := gD G) (ci := 2) (v := .ref (h 1)) (C := RX2) (T := TX2) (N := 2) hx hb hts hiX2 hown hK hP 0 rfl rfl 0 (by decide) k11 (fun _ h9 => h9) rfl dX2_lay_9 ?_
          refine lv_iload_n hx hb dX2_lay_12 rfl (lv_at hl 1 rfl) ?_
          refine aaldJ (f := fun i => some (h (3 + i))) (n := 4) (k := 1) (b := h 4) hx hb hK hP 1 rfl rfl (by decide) rfl dX2_lay_13 ?_
          refine lv_iload_n hx hb dX2_lay_14 rfl (lv_at hl 3 rfl) ?_
          refine lv_lconst (v := 0) hx hb dX2_lay_15 (by decide) ?_
          refine lastN (f := jk 1) (n := 40) (k := k) hx hb hK hP hD hS 4 rfl rfl (by omega) dX2_lay_16 (fun H locs hP hD hS => ?_)
          have hP : PP G (sv G h z (va_up jk 1 (vp_updL (jk 1) k 0))) H := hP
          have hD : va_D A (sv G h z (va_up jk 1 (vp_updL (jk 1) k 0))) := hD
          refine lv_iinc (v := nI (k + 1)) (lv' := [(3, .int (nI (k + 1))), (0, .ref (h 0)), (1, .int (nI 1)), (2, .int n1)]) hx hb dX2_lay_17 hl (k := 3) rfl (nI_1 k) (by decide) rfl (fun ls hl => ?_)
          refine lv_goto (tgt := 2) hx hb dX2_lay_20 (by decide) ?_
          exact ih2 (k + 1) (va_up jk 1 (vp_updL (jk 1) k 0)) (by first | assumption | omega) (by omega) _ _ ls hP hD hS (lv_sub hl [1, 2, 3, 0] rfl)
    exact LP2 (40 - 0 + 1) 0 jj (by first | assumption | omega) (Nat.lt_succ_self _) _ _ ls hP hD hS (lv_sub hl [1, 2, 3, 0] rfl)
  · skip
    refine lv_iconst (v := nI 0) hx hb dX2_lay_0 (by decide) ?_
    refine lv_istore_n (lv' := [(3, .int (nI 0)), (0, .ref (h 0)), (1, .int (nI 2)), (2, .int n1)]) hx hb dX2_lay_1 rfl hl (by decide) rfl (fun ls hl => ?_)
    have LP2 : ∀ (n2m : Nat), ∀ (k : Nat) (jk : Nat → Nat → Int64) (hk : k ≤ 40), (40 - k < n2m) → ∀ (H : Heap) (locs : List Loc) (ls : Array Slot), PP G (sv G h z jk) H → va_D A (sv G h z jk) → va_S A s.heap H locs → lv_has ls 4 [(0, .ref (h 0)), (1, .int (nI 2)), (2, .int n1), (3, .int (nI k))] → W p l e (headSpec wsX2_lay ({ frames := 0, cells := 0, slots := 0, locals := 0 })).room s m ([.ref (h 0), .int (nI 2), .int n1] : List Value).toArray below meth c H locs 0 0 (MQ below (va_Qv (fun (v : oS × (Nat → Nat → Int64)) => ∃ jj', v = (oA z 1 (upd (z.2 1) 2 n1), jj')) (fun v t => PP G (sv G h v.1 v.2) t.heap) A) ([.ref (h 0), .int (nI 2), .int n1] : List Value).toArray s 0 0 A) (F0 m 2 ls []) := by
      intro n2m
      induction n2m with
      | zero => intro k jk hk hmu H locs ls hP hD hS hl; exact absurd hmu (Nat.not_lt_zero _)
      | succ n2m ih2 =>
        intro k jk hk hmu H locs ls hP hD hS hl
        refine lv_iload_n hx hb dX2_lay_2 rfl (lv_at hl 3 rfl) ?_
        refine lv_bipush (v := nI 40) hx hb dX2_lay_3 (by decide) ?_
        refine lv_icmp_ge (tgt := 23) hx hb dX2_lay_5 (by decide) (fun c5 => ?_) (fun c5 => ?_)
        · skip
          have n5 : 40 ≤ k := (nI_leI (a := 40) (b := k) (by omega) (by omega)).mp c5
          refine lv_aload_n hx hb dX2_lay_23 rfl (lv_at hl 0 rfl) ?_
          refine va_get (D := gD G) (ci := 2) (v := .ref (h 2)) (C := RX2) (T := TX2) (N := 2) hx hb hts hiX2 hown hK hP 0 rfl rfl 1 (by decide) k16 (fun _ h9 => h9) rfl dX2_lay_24 ?_
          refine lv_iload_n hx hb dX2_lay_27 rfl (lv_at hl 1 rfl) ?_
          refine lv_iload_n hx hb dX2_lay_28 rfl (lv_at hl 2 rfl) ?_
          refine iastN (f := z.2 1) (n := 4) (k := 2) hx hb hK hP hD hS 2 rfl rfl (by omega) dX2_lay_29 (fun H locs hP hD hS => ?_)
          have hP : PP G (sv G h (oA z 1 (upd (z.2 1) 2 n1)) jk) H := hP
          have hD : va_D A (sv G h (oA z 1 (upd (z.2 1) 2 n1)) jk) := hD
          exact W.vret hx hb hr (fun t ht hW => ⟨⟨(oA z 1 (upd (z.2 1) 2 n1), jk), rfl, ⟨_, rfl⟩, show PP G (sv G h (oA z 1 (upd (z.2 1) 2 n1)) jk) t.heap by rw [ht]; exact hP⟩, hS.F ht⟩) hS.2.2 dX2_lay_30
        · skip
          have n5 : ¬ (40 ≤ k) := fun q9 => c5 ((nI_leI (a := 40) (b := k) (by omega) (by omega)).mpr q9)
          refine lv_aload_n hx hb dX2_lay_8 rfl (lv_at hl 0 rfl) ?_
          refine va_get (D := gD G) (ci := 2) (v := .ref (h 1)) (C := RX2) (T := TX2) (N := 2) hx hb hts hiX2 hown hK hP 0 rfl rfl 0 (by decide) k11 (fun _ h9 => h9) rfl dX2_lay_9 ?_
          refine lv_iload_n hx hb dX2_lay_12 rfl (lv_at hl 1 rfl) ?_
          refine aaldJ (f := fun i => some (h (3 + i))) (n := 4) (k := 2) (b := h 5) hx hb hK hP 1 rfl rfl (by decide) rfl dX2_lay_13 ?_
          refine lv_iload_n hx hb dX2_lay_14 rfl (lv_at hl 3 rfl) ?_
          refine lv_lconst (v := 0) hx hb dX2_lay_15 (by decide) ?_
          refine lastN (f := jk 2) (n := 40) (k := k) hx hb hK hP hD hS 5 rfl rfl (by omega) dX2_lay_16 (fun H locs hP hD hS => ?_)
          have hP : PP G (sv G h z (va_up jk 2 (vp_updL (jk 2) k 0))) H := hP
          have hD : va_D A (sv G h z (va_up jk 2 (vp_updL (jk 2) k 0))) := hD
          refine lv_iinc (v := nI (k + 1)) (lv' := [(3, .int (nI (k + 1))), (0, .ref (h 0)), (1, .int (nI 2)), (2, .int n1)]) hx hb dX2_lay_17 hl (k := 3) rfl (nI_1 k) (by decide) rfl (fun ls hl => ?_)
          refine lv_goto (tgt := 2) hx hb dX2_lay_20 (by decide) ?_
          exact ih2 (k + 1) (va_up jk 2 (vp_updL (jk 2) k 0)) (by first | assumption | omega) (by omega) _ _ ls hP hD hS (lv_sub hl [1, 2, 3, 0] rfl)
    exact LP2 (40 - 0 + 1) 0 jj (by first | assumption | omega) (Nat.lt_succ_self _) _ _ ls hP hD hS (lv_sub hl [1, 2, 3, 0] rfl)
  · skip
    refine lv_iconst (v := nI 0) hx hb dX2_lay_0 (by decide) ?_
    refine lv_istore_n (lv' := [(3, .int (nI 0)), (0, .ref (h 0)), (1, .int (nI 3)), (2, .int n1)]) hx hb dX2_lay_1 rfl hl (by decide) rfl (fun ls hl => ?_)
    have LP2 : ∀ (n2m : Nat), ∀ (k : Nat) (jk : Nat → Nat → Int64) (hk : k ≤ 40), (40 - k < n2m) → ∀ (H : Heap) (locs : List Loc) (ls : Array Slot), PP G (sv G h z jk) H → va_D A (sv G h z jk) → va_S A s.heap H locs → lv_has ls 4 [(0, .ref (h 0)), (1, .int (nI 3)), (2, .int n1), (3, .int (nI k))] → W p l e (headSpec wsX2_lay ({ frames := 0, cells := 0, slots := 0, locals := 0 })).room s m ([.ref (h 0), .int (nI 3), .int n1] : List Value).toArray below meth c H locs 0 0 (MQ below (va_Qv (fun (v : oS × (Nat → Nat → Int64)) => ∃ jj', v = (oA z 1 (upd (z.2 1) 3 n1), jj')) (fun v t => PP G (sv G h v.1 v.2) t.heap) A) ([.ref (h 0), .int (nI 3), .int n1] : List Value).toArray s 0 0 A) (F0 m 2 ls []) := by
      intro n2m
      induction n2m with
      | zero => intro k jk hk hmu H locs ls hP hD hS hl; exact absurd hmu (Nat.not_lt_zero _)
      | succ n2m ih2 =>
        intro k jk hk hmu H locs ls hP hD hS hl
        refine lv_iload_n hx hb dX2_lay_2 rfl (lv_at hl 3 rfl) ?_
        refine lv_bipush (v := nI 40) hx hb dX2_lay_3 (by decide) ?_
        refine lv_icmp_ge (tgt := 23) hx hb dX2_lay_5 (by decide) (fun c5 => ?_) (fun c5 => ?_)
        · skip
          have n5 : 40 ≤ k := (nI_leI (a := 40) (b := k) (by omega) (by omega)).mp c5
          refine lv_aload_n hx hb dX2_lay_23 rfl (lv_at hl 0 rfl) ?_
          refine va_get (D := gD G) (ci := 2) (v := .ref (h 2)) (C := RX2) (T := TX2) (N := 2) hx hb hts hiX2 hown hK hP 0 rfl rfl 1 (by decide) k16 (fun _ h9 => h9) rfl dX2_lay_24 ?_
          refine lv_iload_n hx hb dX2_lay_27 rfl (lv_at hl 1 rfl) ?_
          refine lv_iload_n hx hb dX2_lay_28 rfl (lv_at hl 2 rfl) ?_
          refine iastN (f := z.2 1) (n := 4) (k := 3) hx hb hK hP hD hS 2 rfl rfl (by omega) dX2_lay_29 (fun H locs hP hD hS => ?_)
          have hP : PP G (sv G h (oA z 1 (upd (z.2 1) 3 n1)) jk) H := hP
          have hD : va_D A (sv G h (oA z 1 (upd (z.2 1) 3 n1)) jk) := hD
          exact W.vret hx hb hr (fun t ht hW => ⟨⟨(oA z 1 (upd (z.2 1) 3 n1), jk), rfl, ⟨_, rfl⟩, show PP G (sv G h (oA z 1 (upd (z.2 1) 3 n1)) jk) t.heap by rw [ht]; exact hP⟩, hS.F ht⟩) hS.2.2 dX2_lay_30
        · skip
          have n5 : ¬ (40 ≤ k) := fun q9 => c5 ((nI_leI (a := 40) (b := k) (by omega) (by omega)).mpr q9)
          refine lv_aload_n hx hb dX2_lay_8 rfl (lv_at hl 0 rfl) ?_
          refine va_get (D := gD G) (ci := 2) (v := .ref (h 1)) (C := RX2) (T := TX2) (N := 2) hx hb hts hiX2 hown hK hP 0 rfl rfl 0 (by decide) k11 (fun _ h9 => h9) rfl dX2_lay_9 ?_
          refine lv_iload_n hx hb dX2_lay_12 rfl (lv_at hl 1 rfl) ?_
          refine aaldJ (f := fun i => some (h (3 + i))) (n := 4) (k := 3) (b := h 6) hx hb hK hP 1 rfl rfl (by decide) rfl dX2_lay_13 ?_
          refine lv_iload_n hx hb dX2_lay_14 rfl (lv_at hl 3 rfl) ?_
          refine lv_lconst (v := 0) hx hb dX2_lay_15 (by decide) ?_
          refine lastN (f := jk 3) (n := 40) (k := k) hx hb hK hP hD hS 6 rfl rfl (by omega) dX2_lay_16 (fun H locs hP hD hS => ?_)
          have hP : PP G (sv G h z (va_up jk 3 (vp_updL (jk 3) k 0))) H := hP
          have hD : va_D A (sv G h z (va_up jk 3 (vp_updL (jk 3) k 0))) := hD
          refine lv_iinc (v := nI (k + 1)) (lv' := [(3, .int (nI (k + 1))), (0, .ref (h 0)), (1, .int (nI 3)), (2, .int n1)]) hx hb dX2_lay_17 hl (k := 3) rfl (nI_1 k) (by decide) rfl (fun ls hl => ?_)
          refine lv_goto (tgt := 2) hx hb dX2_lay_20 (by decide) ?_
          exact ih2 (k + 1) (va_up jk 3 (vp_updL (jk 3) k 0)) (by first | assumption | omega) (by omega) _ _ ls hP hD hS (lv_sub hl [1, 2, 3, 0] rfl)
    exact LP2 (40 - 0 + 1) 0 jj (by first | assumption | omega) (Nat.lt_succ_self _) _ _ ls hP hD hS (lv_sub hl [1, 2, 3, 0] rfl)
set_option maxHeartbeats 1000000 in
set_option maxRecDepth 100000 in
theorem mt_X2_findWrong (l : Launch) (G : gG) (h : Nat → Nat) (z : oS) (jj : Nat → Nat → Int64) (s1 : Int32) (i1 : Int32) (n1 : Int32) (hsz : ∀ j, j < 4 → z.2 1 j = -1 ∨ ∃ q, q ≤ 40 ∧ z.2 1 j = nI q) : Met l yX2_findWrong wsX2_findWrong ({ frames := 1, cells := 0, slots := 0, locals := 21 }) (preR G (sv G h z jj) [.ref (h 0), .int s1, .int i1, .int n1]) (vp_Si (fun r : Int32 => (r = 0 ∧ ∃ js ji nn q, js < 4 ∧ s1 = nI js ∧ q ≤ 40 ∧ z.2 1 js = nI q ∧ i1 = nI ji ∧ n1 = nI nn ∧ ji + nn ≤ q) ∨ (r = -1000000001 ∧ ∀ j, j < 4 → s1 ≠ nI j) ∨ (r = -1000000011 ∧ ∃ js, js < 4 ∧ s1 = nI js ∧ z.2 1 js = -1) ∨ (r = -1000000012 ∧ ∃ js q, js < 4 ∧ s1 = nI js ∧ q ≤ 40 ∧ z.2 1 js = nI q ∧ ¬ ∃ ji nn, i1 = nI ji ∧ n1 = nI nn ∧ ji + nn ≤ q))) 0 0 (fun _ => False) := by
  refine Met.ofW (cc := cX2_findWrong) (maxL := 4) (ret := (some .int)) (by decide) rfl ?_
  intro p e s m args below meth c s₁ B hml hv
  obtain ⟨ha, hP, hK, hN⟩ := hv
  subst ha
  have hx := B.exec
  have hb := B.bytes
  have hr := B.returns
  have hts := atoms_spec (ws := wsX2_findWrong) B.pre
  have hown : s.vm.findClass RX2 = some m.cls := findClass_of_methodNamed B.named
  have hlocks := B.notSynchronized
  have hiX2 : ∀ w ∈ wsX20, w ∈ wsX2_findWrong := by decide +kernel
  have k16 := hts (.fieldLink RX2 16 "WovenHistory$Sheets" "sizes" "[I") (List.mem_of_getElem? (i := 2) rfl)
  have hl := lv_entry ([.ref (h 0), .int s1, .int i1, .int n1]) (n := 4) (Nat.le_of_ble_eq_true rfl)
  rw [lg_entry_eq]
  generalize (lg_sl ([.ref (h 0), .int s1, .int i1, .int n1]) ++ List.replicate (4 - (lg_sl ([.ref (h 0), .int s1, .int i1, .int n1])).length) Slot.unset).toArray = ls at hl ⊢
  have hl : lv_has ls 4 [(0, .ref (h 0)), (1, .int s1), (2, .int i1), (3, .int n1)] := hl
  refine lv_aload_n hx hb dX2_findWrong_0 rfl (lv_at hl 0 rfl) ?_
  refine lv_iload_n hx hb dX2_findWrong_1 rfl (lv_at hl 1 rfl) ?_
  refine cRi (w := sv G h z jj) (As := [.int s1]) (rest := []) ⟨hx, hb, hml, hown, hts⟩ (mt_X2_hasNumber l G h z jj s1) (cwV 1 hts gX2_findWrong_X2_hasNumber rfl rfl rfl (by decide +kernel) ⟨Nat.le_of_ble_eq_true rfl, Nat.le_of_ble_eq_true rfl⟩) hK hN hP 0 2 rfl rfl rfl hl.1 rfl (Nat.le_of_ble_eq_true rfl) ⟨Nat.zero_le _, Nat.zero_le _⟩ dX2_findWrong_2 (fun r2 hw2 => ?_)
  rcases hw2 with ⟨rfl, j2, hj2, rfl⟩ | ⟨rfl, hn2⟩
  · skip
    refine lv_if_ne (tgt := 11) hx hb dX2_findWrong_5 (by decide) (fun _ => ?_) (fun c9 => absurd c9 (by decide))
    refine lv_aload_n hx hb dX2_findWrong_11 rfl (lv_at hl 0 rfl) ?_
    refine va_get (D := gD G) (ci := 2) (v := .ref (h 2)) (C := RX2) (T := TX2) (N := 2) hx hb hts hiX2 hown hK hP 0 rfl rfl 1 (by decide) k16 (fun _ h9 => h9) rfl dX2_findWrong_12 ?_
    refine lv_iload_n hx hb dX2_findWrong_15 rfl (lv_at hl 1 rfl) ?_
    refine ialdN (f := z.2 1) (n := 4) (k := j2) hx hb hK hP 2 rfl rfl (by omega) dX2_findWrong_16 ?_
    refine lv_iconst (v := (-1 : Int32)) hx hb dX2_findWrong_17 (by decide) ?_
    refine lv_icmp_ne (tgt := 24) hx hb dX2_findWrong_18 (by decide) (fun c18 => ?_) (fun c18 => ?_)
    · skip
      obtain ⟨q18, hq18, eq18⟩ := (hsz j2 hj2).resolve_left c18
      refine lv_iload_n hx hb dX2_findWrong_24 rfl (lv_at hl 2 rfl) ?_
      refine lv_if_lt (tgt := 54) hx hb dX2_findWrong_25 (by decide) (fun c25 => ?_) (fun c25 => ?_)
      · skip
        refine lv_ldc (v := (-1000000012 : Int32)) hx hb hown (hts (.constant RX2 26 (-1000000012)) (List.mem_of_getElem? (i := 4) rfl)) dX2_findWrong_54 ?_
        exact W.iret (v := (-1000000012 : Int32)) hx hb hr (fun t ht hW => ⟨(-1000000012 : Int32), rfl, Or.inr (Or.inr (Or.inr ⟨rfl, j2, q18, hj2, rfl, hq18, eq18, fw_n hq18 (by first | exact Or.inl (by assumption) | exact Or.inr (Or.inl (by assumption)) | exact Or.inr (Or.inr (Or.inl (by assumption))) | exact Or.inr (Or.inr (Or.inr ⟨by assumption, by assumption, by assumption⟩)))⟩)), ht⟩) (fun _ h9 => by cases h9) dX2_findWrong_56
      · skip
        refine lv_iload_n hx hb dX2_findWrong_28 rfl (lv_at hl 3 rfl) ?_
        refine lv_if_lt (tgt := 54) hx hb dX2_findWrong_29 (by decide) (fun c29 => ?_) (fun c29 => ?_)
        · skip
          refine lv_ldc (v := (-1000000012 : Int32)) hx hb hown (hts (.constant RX2 26 (-1000000012)) (List.mem_of_getElem? (i := 4) rfl)) dX2_findWrong_54 ?_
          exact W.iret (v := (-1000000012 : Int32)) hx hb hr (fun t ht hW => ⟨(-1000000012 : Int32), rfl, Or.inr (Or.inr (Or.inr ⟨rfl, j2, q18, hj2, rfl, hq18, eq18, fw_n hq18 (by first | exact Or.inl (by assumption) | exact Or.inr (Or.inl (by assumption)) | exact Or.inr (Or.inr (Or.inl (by assumption))) | exact Or.inr (Or.inr (Or.inr ⟨by assumption, by assumption, by assumption⟩)))⟩)), ht⟩) (fun _ h9 => by cases h9) dX2_findWrong_56
        · skip
          refine lv_iload_n hx hb dX2_findWrong_32 rfl (lv_at hl 2 rfl) ?_
          refine lv_aload_n hx hb dX2_findWrong_33 rfl (lv_at hl 0 rfl) ?_
          refine va_get (D := gD G) (ci := 2) (v := .ref (h 2)) (C := RX2) (T := TX2) (N := 2) hx hb hts hiX2 hown hK hP 0 rfl rfl 1 (by decide) k16 (fun _ h9 => h9) rfl dX2_findWrong_34 ?_
          refine lv_iload_n hx hb dX2_findWrong_37 rfl (lv_at hl 1 rfl) ?_
          refine ialdN (f := z.2 1) (n := 4) (k := j2) hx hb hK hP 2 rfl rfl (by omega) dX2_findWrong_38 ?_
          refine topE eq18 ?_
          refine lv_icmp_gt (tgt := 54) hx hb dX2_findWrong_39 (by decide) (fun c39 => ?_) (fun c39 => ?_)
          · skip
            refine lv_ldc (v := (-1000000012 : Int32)) hx hb hown (hts (.constant RX2 26 (-1000000012)) (List.mem_of_getElem? (i := 4) rfl)) dX2_findWrong_54 ?_
            exact W.iret (v := (-1000000012 : Int32)) hx hb hr (fun t ht hW => ⟨(-1000000012 : Int32), rfl, Or.inr (Or.inr (Or.inr ⟨rfl, j2, q18, hj2, rfl, hq18, eq18, fw_n hq18 (by first | exact Or.inl (by assumption) | exact Or.inr (Or.inl (by assumption)) | exact Or.inr (Or.inr (Or.inl (by assumption))) | exact Or.inr (Or.inr (Or.inr ⟨by assumption, by assumption, by assumption⟩)))⟩)), ht⟩) (fun _ h9 => by cases h9) dX2_findWrong_56
          · skip
            refine lv_iload_n hx hb dX2_findWrong_42 rfl (lv_at hl 3 rfl) ?_
            refine lv_aload_n hx hb dX2_findWrong_43 rfl (lv_at hl 0 rfl) ?_
            refine va_get (D := gD G) (ci := 2) (v := .ref (h 2)) (C := RX2) (T := TX2) (N := 2) hx hb hts hiX2 hown hK hP 0 rfl rfl 1 (by decide) k16 (fun _ h9 => h9) rfl dX2_findWrong_44 ?_
            refine lv_iload_n hx hb dX2_findWrong_47 rfl (lv_at hl 1 rfl) ?_
            refine ialdN (f := z.2 1) (n := 4) (k := j2) hx hb hK hP 2 rfl rfl (by omega) dX2_findWrong_48 ?_
            refine topE eq18 ?_
            refine lv_iload_n hx hb dX2_findWrong_49 rfl (lv_at hl 2 rfl) ?_
            refine lv_isub hx hb dX2_findWrong_50 ?_
            refine lv_icmp_le (tgt := 57) hx hb dX2_findWrong_51 (by decide) (fun c51 => ?_) (fun c51 => ?_)
            · skip
              refine lv_iconst (v := nI 0) hx hb dX2_findWrong_57 (by decide) ?_
              exact W.iret (v := nI 0) hx hb hr (fun t ht hW => ⟨nI 0, rfl, by obtain ⟨ji, nn, e1, e2, e3⟩ := fw_y hq18 c25 c29 c39 c51; exact Or.inl ⟨rfl, j2, ji, nn, q18, hj2, rfl, hq18, eq18, e1, e2, e3⟩, ht⟩) (fun _ h9 => by cases h9) dX2_findWrong_58
            · skip
              refine lv_ldc (v := (-1000000012 : Int32)) hx hb hown (hts (.constant RX2 26 (-1000000012)) (List.mem_of_getElem? (i := 4) rfl)) dX2_findWrong_54 ?_
              exact W.iret (v := (-1000000012 : Int32)) hx hb hr (fun t ht hW => ⟨(-1000000012 : Int32), rfl, Or.inr (Or.inr (Or.inr ⟨rfl, j2, q18, hj2, rfl, hq18, eq18, fw_n hq18 (by first | exact Or.inl (by assumption) | exact Or.inr (Or.inl (by assumption)) | exact Or.inr (Or.inr (Or.inl (by assumption))) | exact Or.inr (Or.inr (Or.inr ⟨by assumption, by assumption, by assumption⟩)))⟩)), ht⟩) (fun _ h9 => by cases h9) dX2_findWrong_56
    · skip
      refine lv_ldc (v := (-1000000011 : Int32)) hx hb hown (hts (.constant RX2 25 (-1000000011)) (List.mem_of_getElem? (i := 3) rfl)) dX2_findWrong_21 ?_
      exact W.iret (v := (-1000000011 : Int32)) hx hb hr (fun t ht hW => ⟨(-1000000011 : Int32), rfl, Or.inr (Or.inr (Or.inl ⟨rfl, j2, hj2, rfl, c18⟩)), ht⟩) (fun _ h9 => by cases h9) dX2_findWrong_23
  · skip
    refine lv_if_ne (tgt := 11) hx hb dX2_findWrong_5 (by decide) (fun c9 => absurd (by decide) c9) (fun _ => ?_)
    refine lv_ldc (v := (-1000000001 : Int32)) hx hb hown (hts (.constant RX2 24 (-1000000001)) (List.mem_of_getElem? (i := 1) rfl)) dX2_findWrong_8 ?_
    exact W.iret (v := (-1000000001 : Int32)) hx hb hr (fun t ht hW => ⟨(-1000000001 : Int32), rfl, Or.inr (Or.inl ⟨rfl, by assumption⟩), ht⟩) (fun _ h9 => by cases h9) dX2_findWrong_10
set_option maxHeartbeats 1000000 in
set_option maxRecDepth 100000 in
theorem mt_X0_start (l : Launch) (G : gG) (h : Nat → Nat) (sz : Nat) (lt : Int64) (x : Int32) : Met l yX0_start wsX0_start ({ frames := 0, cells := 0, slots := 0, locals := 0 }) (preW G (tv G h lt) sz [.ref (h 0), .int x]) (va_Qv (fun (v : Int64) => True) (fun v t => PP G (tv G h v) t.heap) (va_A (tv G h lt) sz)) 0 0 (va_A (tv G h lt) sz) := by
  refine Met.ofW (cc := cX0_start) (maxL := 2) (ret := none) (by decide) rfl ?_
  intro p e s m args below meth c s₁ B hml hv
  obtain ⟨ha, hsz, hP, hK, hN, hD0⟩ := hv
  subst ha
  have hx := B.exec
  have hb := B.bytes
  have hr := B.returns
  have hts := atoms_spec (ws := wsX0_start) B.pre
  have hown : s.vm.findClass RX0 = some m.cls := findClass_of_methodNamed B.named
  have hlocks := B.notSynchronized
  subst hsz
  have hD := hD0.self (sz := s.heap.size)
  generalize hAe : va_A (tv G h lt) s.heap.size = A at hD ⊢
  have hA : ∀ q : Nat, s.heap.size ≤ q → A q := fun q h => by rw [← hAe]; exact Or.inr h
  clear hAe hD0
  have hS : va_S A s.heap s.heap [] := va_S.rf
  have hiX0 : ∀ w ∈ wsX00, w ∈ wsX0_start := by decide +kernel
  have k7 := hts (.fieldLink RX0 7 "WovenHistory$Lots" "x" "J") (List.mem_of_getElem? (i := 1) rfl)
  have hl := lv_entry ([.ref (h 0), .int x]) (n := 2) (Nat.le_of_ble_eq_true rfl)
  rw [lg_entry_eq]
  generalize (lg_sl ([.ref (h 0), .int x]) ++ List.replicate (2 - (lg_sl ([.ref (h 0), .int x])).length) Slot.unset).toArray = ls at hl ⊢
  have hl : lv_has ls 2 [(0, .ref (h 0)), (1, .int x)] := hl
  refine lv_aload_n hx hb dX0_start_0 rfl (lv_at hl 0 rfl) ?_
  refine lv_iload_n hx hb dX0_start_1 rfl (lv_at hl 1 rfl) ?_
  refine lv_i2l (v := x.toInt64) hx hb dX0_start_2 rfl ?_
  refine va_put (D := gD G) (ci := 0) (v := .long x.toInt64) (ty := .long) (C := RX0) (T := TX0) (N := 1) hx hb hts hiX0 tyX0 tyX0_ok nmX0 hown hK hP hD hS 0 rfl rfl 0 (by decide) k7 (fun _ h9 => h9) rfl (by decide +kernel) (rfl) (rfl) (Nat.le_of_ble_eq_true rfl) dX0_start_3 (fun H locs hP hD hS => ?_)
  have hP : PP G (tv G h x.toInt64) H := hP
  have hD : va_D A (tv G h x.toInt64) := hD
  exact W.vret hx hb hr (fun t ht hW => ⟨⟨x.toInt64, rfl, trivial, show PP G (tv G h x.toInt64) t.heap by rw [ht]; exact hP⟩, hS.F ht⟩) hS.2.2 dX0_start_6
set_option maxHeartbeats 1000000 in
set_option maxRecDepth 100000 in
theorem mt_X0_below (l : Launch) (G : gG) (h : Nat → Nat) (sz : Nat) (lt : Int64) (x : Int32) : Met l yX0_below wsX0_below ({ frames := 0, cells := 0, slots := 0, locals := 0 }) (preW G (tv G h lt) sz [.ref (h 0), .int x]) (va_Qi (fun (r : Int32) (v : Int64) => True) (fun v t => PP G (tv G h v) t.heap) (va_A (tv G h lt) sz)) 0 0 (va_A (tv G h lt) sz) := by
  refine Met.ofW (cc := cX0_below) (maxL := 2) (ret := (some .int)) (by decide) rfl ?_
  intro p e s m args below meth c s₁ B hml hv
  obtain ⟨ha, hsz, hP, hK, hN, hD0⟩ := hv
  subst ha
  have hx := B.exec
  have hb := B.bytes
  have hr := B.returns
  have hts := atoms_spec (ws := wsX0_below) B.pre
  have hown : s.vm.findClass RX0 = some m.cls := findClass_of_methodNamed B.named
  have hlocks := B.notSynchronized
  subst hsz
  have hD := hD0.self (sz := s.heap.size)
  generalize hAe : va_A (tv G h lt) s.heap.size = A at hD ⊢
  have hA : ∀ q : Nat, s.heap.size ≤ q → A q := fun q h => by rw [← hAe]; exact Or.inr h
  clear hAe hD0
  have hS : va_S A s.heap s.heap [] := va_S.rf
  have hiX0 : ∀ w ∈ wsX00, w ∈ wsX0_below := by decide +kernel
  have k7 := hts (.fieldLink RX0 7 "WovenHistory$Lots" "x" "J") (List.mem_of_getElem? (i := 1) rfl)
  have hl := lv_entry ([.ref (h 0), .int x]) (n := 2) (Nat.le_of_ble_eq_true rfl)
  rw [lg_entry_eq]
  generalize (lg_sl ([.ref (h 0), .int x]) ++ List.replicate (2 - (lg_sl ([.ref (h 0), .int x])).length) Slot.unset).toArray = ls at hl ⊢
  have hl : lv_has ls 2 [(0, .ref (h 0)), (1, .int x)] := hl
  refine lv_aload_n hx hb dX0_below_0 rfl (lv_at hl 0 rfl) ?_
  refine lv_aload_n hx hb dX0_below_1 rfl (lv_at hl 0 rfl) ?_
  refine va_get (D := gD G) (ci := 0) (v := .long lt) (C := RX0) (T := TX0) (N := 1) hx hb hts hiX0 hown hK hP 0 rfl rfl 0 (by decide) k7 (fun _ h9 => h9) rfl dX0_below_2 ?_
  refine lv_ldc2 (v := 16807) hx hb hown (hts (.constantLong RX0 13 (16807)) (List.mem_of_getElem? (i := 2) rfl)) dX0_below_5 ?_
  refine lv_lmul hx hb dX0_below_8 ?_
  refine lv_ldc2 (v := 2147483647) hx hb hown (hts (.constantLong RX0 15 (2147483647)) (List.mem_of_getElem? (i := 3) rfl)) dX0_below_9 ?_
  refine lv_lrem hx hb dX0_below_12 (by decide) ?_
  refine va_put (D := gD G) (ci := 0) (v := .long ((lt * 16807) - (lt * 16807) / 2147483647 * 2147483647)) (ty := .long) (C := RX0) (T := TX0) (N := 1) hx hb hts hiX0 tyX0 tyX0_ok nmX0 hown hK hP hD hS 0 rfl rfl 0 (by decide) k7 (fun _ h9 => h9) rfl (by decide +kernel) (rfl) (rfl) (Nat.le_of_ble_eq_true rfl) dX0_below_13 (fun H locs hP hD hS => ?_)
  have hP : PP G (tv G h ((lt * 16807) - (lt * 16807) / 2147483647 * 2147483647)) H := hP
  have hD : va_D A (tv G h ((lt * 16807) - (lt * 16807) / 2147483647 * 2147483647)) := hD
  refine lv_iload_n hx hb dX0_below_16 rfl (lv_at hl 1 rfl) ?_
  refine lv_if_le (tgt := 31) hx hb dX0_below_17 (by decide) (fun c17 => ?_) (fun c17 => ?_)
  · skip
    refine lv_iconst (v := nI 0) hx hb dX0_below_31 (by decide) ?_
    exact W.iret (v := nI 0) hx hb hr (fun t ht hW => ⟨⟨nI 0, ((lt * 16807) - (lt * 16807) / 2147483647 * 2147483647), rfl, trivial, show PP G (tv G h ((lt * 16807) - (lt * 16807) / 2147483647 * 2147483647)) t.heap by rw [ht]; exact hP⟩, hS.F ht⟩) hS.2.2 dX0_below_32
  · skip
    refine lv_aload_n hx hb dX0_below_20 rfl (lv_at hl 0 rfl) ?_
    refine va_get (D := gD G) (ci := 0) (v := .long ((lt * 16807) - (lt * 16807) / 2147483647 * 2147483647)) (C := RX0) (T := TX0) (N := 1) hx hb hts hiX0 hown hK hP 0 rfl rfl 0 (by decide) k7 (fun _ h9 => h9) rfl dX0_below_21 ?_
    refine lv_iload_n hx hb dX0_below_24 rfl (lv_at hl 1 rfl) ?_
    refine lv_i2l (v := x.toInt64) hx hb dX0_below_25 rfl ?_
    refine lv_lrem hx hb dX0_below_26 (i64ne c17) ?_
    refine lv_l2i (v := (((lt * 16807) - (lt * 16807) / 2147483647 * 2147483647) - ((lt * 16807) - (lt * 16807) / 2147483647 * 2147483647) / x.toInt64 * x.toInt64).toInt32) hx hb dX0_below_27 rfl ?_
    refine lv_goto (tgt := 32) hx hb dX0_below_28 (by decide) ?_
    exact W.iret (v := (((lt * 16807) - (lt * 16807) / 2147483647 * 2147483647) - ((lt * 16807) - (lt * 16807) / 2147483647 * 2147483647) / x.toInt64 * x.toInt64).toInt32) hx hb hr (fun t ht hW => ⟨⟨(((lt * 16807) - (lt * 16807) / 2147483647 * 2147483647) - ((lt * 16807) - (lt * 16807) / 2147483647 * 2147483647) / x.toInt64 * x.toInt64).toInt32, ((lt * 16807) - (lt * 16807) / 2147483647 * 2147483647), rfl, trivial, show PP G (tv G h ((lt * 16807) - (lt * 16807) / 2147483647 * 2147483647)) t.heap by rw [ht]; exact hP⟩, hS.F ht⟩) hS.2.2 dX0_below_32
set_option maxHeartbeats 1000000 in
set_option maxRecDepth 100000 in
theorem mt_X4_isSign (l : Launch) (x : Int32) : Met l yX4_isSign wsX4_isSign ({ frames := 0, cells := 0, slots := 0, locals := 0 }) (preS [.int x]) (vp_Si (fun r : Int32 => (r = 1 ∧ ¬ x = -1) ∨ r = 0)) 0 0 (fun _ => False) := by
  refine Met.ofW (cc := cX4_isSign) (maxL := 1) (ret := (some .boolean)) (by decide) rfl ?_
  intro p e s m args below meth c s₁ B hml hv
  obtain ⟨ha, -⟩ := hv
  subst ha
  have hx := B.exec
  have hb := B.bytes
  have hr := B.returns
  have hts := atoms_spec (ws := wsX4_isSign) B.pre
  have hown : s.vm.findClass RX4 = some m.cls := findClass_of_methodNamed B.named
  have hlocks := B.notSynchronized
  have hl := lv_entry ([.int x]) (n := 1) (Nat.le_of_ble_eq_true rfl)
  rw [lg_entry_eq]
  generalize (lg_sl ([.int x]) ++ List.replicate (1 - (lg_sl ([.int x])).length) Slot.unset).toArray = ls at hl ⊢
  have hl : lv_has ls 1 [(0, .int x)] := hl
  refine lv_iload_n hx hb dX4_isSign_0 rfl (lv_at hl 0 rfl) ?_
  refine lv_bipush (v := nI 65) hx hb dX4_isSign_1 (by decide) ?_
  refine lv_icmp_lt (tgt := 16) hx hb dX4_isSign_3 (by decide) (fun c3 => ?_) (fun c3 => ?_)
  · skip
    refine lv_iconst (v := nI 0) hx hb dX4_isSign_16 (by decide) ?_
    exact W.zret (v := nI 0) hx hb hr (by decide) (fun t ht hW => ⟨nI 0, rfl, by first | exact Or.inl ⟨rfl, fun e => c3 (by rw [e]; decide)⟩ | exact Or.inr rfl, ht⟩) (fun _ h9 => by cases h9) dX4_isSign_17
  · skip
    refine lv_iload_n hx hb dX4_isSign_6 rfl (lv_at hl 0 rfl) ?_
    refine lv_bipush (v := nI 90) hx hb dX4_isSign_7 (by decide) ?_
    refine lv_icmp_gt (tgt := 16) hx hb dX4_isSign_9 (by decide) (fun c9 => ?_) (fun c9 => ?_)
    · skip
      refine lv_iconst (v := nI 0) hx hb dX4_isSign_16 (by decide) ?_
      exact W.zret (v := nI 0) hx hb hr (by decide) (fun t ht hW => ⟨nI 0, rfl, by first | exact Or.inl ⟨rfl, fun e => c3 (by rw [e]; decide)⟩ | exact Or.inr rfl, ht⟩) (fun _ h9 => by cases h9) dX4_isSign_17
    · skip
      refine lv_iconst (v := nI 1) hx hb dX4_isSign_12 (by decide) ?_
      refine lv_goto (tgt := 17) hx hb dX4_isSign_13 (by decide) ?_
      exact W.zret (v := nI 1) hx hb hr (by decide) (fun t ht hW => ⟨nI 1, rfl, by first | exact Or.inl ⟨rfl, fun e => c3 (by rw [e]; decide)⟩ | exact Or.inr rfl, ht⟩) (fun _ h9 => by cases h9) dX4_isSign_17
