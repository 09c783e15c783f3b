/-! Sheets and Reader: what their tests tell -/
theorem nI_of1 {x : Int32} (h : ¬ x < 0) : ∃ j, j < 2147483648 ∧ x = nI j := by
  obtain ⟨j, h1, h2⟩ := nI_of h
  exact ⟨j, h1, h2⟩
theorem fw_y {i n : Int32} {q : Nat} (hq : q ≤ 40) (h0 : ¬ i < 0) (h1 : ¬ n < 0) (h2 : ¬ nI q < i) (h3 : n ≤ nI q - i) : ∃ ji nn, i = nI ji ∧ n = nI nn ∧ ji + nn ≤ q := by
  obtain ⟨ji, a1, rfl⟩ := nI_of1 h0
  obtain ⟨nn, a2, rfl⟩ := nI_of1 h1
  have hj : ji ≤ q := by
    rcases Nat.lt_or_ge q ji with h | h
    · exact absurd ((nI_ltI (a := q) (b := ji) (by omega) (by omega)).mpr h) h2
    · exact h
  refine ⟨ji, nn, rfl, rfl, ?_⟩
  rw [pk_sub hj] at h3
  have := (nI_leI (a := nn) (b := q - ji) (by omega) (by omega)).mp h3
  omega
theorem fw_n {i n : Int32} {q : Nat} (hq : q ≤ 40) (h : i < 0 ∨ n < 0 ∨ nI q < i ∨ (¬ i < 0 ∧ ¬ nI q < i ∧ ¬ n ≤ nI q - i)) : ¬ ∃ ji nn, i = nI ji ∧ n = nI nn ∧ ji + nn ≤ q := by
  rintro ⟨ji, nn, rfl, rfl, hs⟩
  rcases h with h | h | h | ⟨h0, h1, h⟩
  · exact nI_pos (by omega) h
  · exact nI_pos (by omega) h
  · have := (nI_ltI (a := q) (b := ji) (by omega) (by omega)).mp h; omega
  · apply h
    rw [pk_sub (by omega)]
    exact (nI_leI (a := nn) (b := q - ji) (by omega) (by omega)).mpr (by omega)

set_option maxHeartbeats 1000000 in
set_option maxRecDepth 100000 in
theorem mt_X2_hasNumber (l : Launch) (G : gG) (h : Nat → Nat) (z : oS) (jj : Nat → Nat → Int64) (x : Int32) : Met l yX2_hasNumber wsX2_hasNumber ({ frames := 0, cells := 0, slots := 0, locals := 0 }) (preR G (sv G h z jj) [.ref (h 0), .int x]) (vp_Si (fun r : Int32 => (r = 1 ∧ ∃ j, j < 4 ∧ x = nI j) ∨ (r = 0 ∧ ∀ j, j < 4 → x ≠ nI j))) 0 0 (fun _ => False) := by
  refine Met.ofW (cc := cX2_hasNumber) (maxL := 2) (ret := (some .boolean)) (by decide) rfl ?_
  intro p e s m args below meth c s₁ B hml hv
  obtain ⟨ha, hP, hK, hN⟩ := hv
  subst ha
  have hx := B.exec
  have hb := B.bytes
  have hr := B.returns
  have hts := atoms_spec (ws := wsX2_hasNumber) B.pre
  have hown : s.vm.findClass RX2 = some m.cls := findClass_of_methodNamed B.named
  have hlocks := B.notSynchronized
  have hl := lv_entry ([.ref (h 0), .int x]) (n := 2) (Nat.le_of_ble_eq_true rfl)
  rw [lg_entry_eq]
  generalize (lg_sl ([.ref (h 0), .int x]) ++ List.replicate (2 - (lg_sl ([.ref (h 0), .int x])).length) Slot.unset).toArray = ls at hl ⊢
  have hl : lv_has ls 2 [(0, .ref (h 0)), (1, .int x)] := hl
  refine lv_iload_n hx hb dX2_hasNumber_0 rfl (lv_at hl 1 rfl) ?_
  refine lv_if_lt (tgt := 13) hx hb dX2_hasNumber_1 (by decide) (fun c1 => ?_) (fun c1 => ?_)
  · skip
    refine lv_iconst (v := nI 0) hx hb dX2_hasNumber_13 (by decide) ?_
    exact W.zret (v := nI 0) hx hb hr (by decide) (fun t ht hW => ⟨nI 0, rfl, by first | exact Or.inl ⟨rfl, hv_y (n := 4) (by omega) (by assumption) (by assumption)⟩ | exact Or.inr ⟨rfl, hv_n1 (n := 4) (by omega) (by assumption)⟩ | exact Or.inr ⟨rfl, hv_n2 (n := 4) (by omega) (by assumption)⟩, ht⟩) (fun _ h9 => by cases h9) dX2_hasNumber_14
  · skip
    refine lv_iload_n hx hb dX2_hasNumber_4 rfl (lv_at hl 1 rfl) ?_
    refine lv_iconst (v := nI 4) hx hb dX2_hasNumber_5 (by decide) ?_
    refine lv_icmp_ge (tgt := 13) hx hb dX2_hasNumber_6 (by decide) (fun c6 => ?_) (fun c6 => ?_)
    · skip
      refine lv_iconst (v := nI 0) hx hb dX2_hasNumber_13 (by decide) ?_
      exact W.zret (v := nI 0) hx hb hr (by decide) (fun t ht hW => ⟨nI 0, rfl, by first | exact Or.inl ⟨rfl, hv_y (n := 4) (by omega) (by assumption) (by assumption)⟩ | exact Or.inr ⟨rfl, hv_n1 (n := 4) (by omega) (by assumption)⟩ | exact Or.inr ⟨rfl, hv_n2 (n := 4) (by omega) (by assumption)⟩, ht⟩) (fun _ h9 => by cases h9) dX2_hasNumber_14
    · skip
      refine lv_iconst (v := nI 1) hx hb dX2_hasNumber_9 (by decide) ?_
      refine lv_goto (tgt := 14) hx hb dX2_hasNumber_10 (by decide) ?_
      exact W.zret (v := nI 1) hx hb hr (by decide) (fun t ht hW => ⟨nI 1, rfl, by first | exact Or.inl ⟨rfl, hv_y (n := 4) (by omega) (by assumption) (by assumption)⟩ | exact Or.inr ⟨rfl, hv_n1 (n := 4) (by omega) (by assumption)⟩ | exact Or.inr ⟨rfl, hv_n2 (n := 4) (by omega) (by assumption)⟩, ht⟩) (fun _ h9 => by cases h9) dX2_hasNumber_14
set_option maxHeartbeats 1000000 in
set_option maxRecDepth 100000 in
theorem mt_X2_countThere (l : Launch) (G : gG) (h : Nat → Nat) (z : oS) (jj : Nat → Nat → Int64) : Met l yX2_countThere wsX2_countThere ({ frames := 0, cells := 0, slots := 0, locals := 0 }) (preR G (sv G h z jj) [.ref (h 0)]) (vp_Si (fun r : Int32 => True)) 0 0 (fun _ => False) := by
  refine Met.ofW (cc := cX2_countThere) (maxL := 3) (ret := (some .int)) (by decide) rfl ?_
  intro p e s m args below meth c s₁ B hml hv
  obtain ⟨ha, hP, hK, hN⟩ := hv
  subst ha
  have hx := B.exec
  have hb := B.bytes
  have hr := B.returns
  have hts := atoms_spec (ws := wsX2_countThere) B.pre
  have hown : s.vm.findClass RX2 = some m.cls := findClass_of_methodNamed B.named
  have hlocks := B.notSynchronized
  have hiX2 : ∀ w ∈ wsX20, w ∈ wsX2_countThere := by decide +kernel
  have k16 := hts (.fieldLink RX2 16 "WovenHistory$Sheets" "sizes" "[I") (List.mem_of_getElem? (i := 1) rfl)
  have hl := lv_entry ([.ref (h 0)]) (n := 3) (Nat.le_of_ble_eq_true rfl)
  rw [lg_entry_eq]
  generalize (lg_sl ([.ref (h 0)]) ++ List.replicate (3 - (lg_sl ([.ref (h 0)])).length) Slot.unset).toArray = ls at hl ⊢
  have hl : lv_has ls 3 [(0, .ref (h 0))] := hl
  refine lv_iconst (v := nI 0) hx hb dX2_countThere_0 (by decide) ?_
  refine lv_istore_n (lv' := [(1, .int (nI 0)), (0, .ref (h 0))]) hx hb dX2_countThere_1 rfl hl (by decide) rfl (fun ls hl => ?_)
  refine lv_iconst (v := nI 0) hx hb dX2_countThere_2 (by decide) ?_
  refine lv_istore_n (lv' := [(2, .int (nI 0)), (1, .int (nI 0)), (0, .ref (h 0))]) hx hb dX2_countThere_3 rfl hl (by decide) rfl (fun ls hl => ?_)
  have LP4 : ∀ (n4m : Nat), ∀ (k : Nat) (y : Int32) (hk : k ≤ 4), (4 - k < n4m) → ∀ (ls : Array Slot), lv_has ls 3 [(0, .ref (h 0)), (1, .int y), (2, .int (nI k))] → W p l e (headSpec wsX2_countThere ({ frames := 0, cells := 0, slots := 0, locals := 0 })).room s m ([.ref (h 0)] : List Value).toArray below meth c s.heap [] 0 0 (MQ below (vp_Si (fun r : Int32 => True)) ([.ref (h 0)] : List Value).toArray s 0 0 (fun _ => False)) (F0 m 4 ls []) := by
    intro n4m
    induction n4m with
    | zero => intro k y hk hmu ls hl; exact absurd hmu (Nat.not_lt_zero _)
    | succ n4m ih4 =>
      intro k y hk hmu ls hl
      refine lv_iload_n hx hb dX2_countThere_4 rfl (lv_at hl 2 rfl) ?_
      refine lv_iconst (v := nI 4) hx hb dX2_countThere_5 (by decide) ?_
      refine lv_icmp_ge (tgt := 28) hx hb dX2_countThere_6 (by decide) (fun c6 => ?_) (fun c6 => ?_)
      · skip
        have n6 : 4 ≤ k := (nI_leI (a := 4) (b := k) (by omega) (by omega)).mp c6
        refine lv_iload_n hx hb dX2_countThere_28 rfl (lv_at hl 1 rfl) ?_
        exact W.iret (v := y) hx hb hr (fun t ht hW => ⟨y, rfl, by first | rfl | trivial | omega | assumption, ht⟩) (fun _ h9 => by cases h9) dX2_countThere_29
      · skip
        have n6 : ¬ (4 ≤ k) := fun q9 => c6 ((nI_leI (a := 4) (b := k) (by omega) (by omega)).mpr q9)
        refine lv_aload_n hx hb dX2_countThere_9 rfl (lv_at hl 0 rfl) ?_
        refine va_get (D := gD G) (ci := 2) (v := .ref (h 2)) (C := RX2) (T := TX2) (N := 2) hx hb hts hiX2 hown hK hP 0 rfl rfl 1 (by decide) k16 (fun _ h9 => h9) rfl dX2_countThere_10 ?_
        refine lv_iload_n hx hb dX2_countThere_13 rfl (lv_at hl 2 rfl) ?_
        refine ialdN (f := z.2 1) (n := 4) (k := k) hx hb hK hP 2 rfl rfl (by omega) dX2_countThere_14 ?_
        refine lv_iconst (v := (-1 : Int32)) hx hb dX2_countThere_15 (by decide) ?_
        refine lv_icmp_eq (tgt := 22) hx hb dX2_countThere_16 (by decide) (fun c16 => ?_) (fun c16 => ?_)
        · skip
          refine lv_iinc (v := nI (k + 1)) (lv' := [(2, .int (nI (k + 1))), (0, .ref (h 0)), (1, .int y)]) hx hb dX2_countThere_22 hl (k := 2) rfl (nI_1 k) (by decide) rfl (fun ls hl => ?_)
          refine lv_goto (tgt := 4) hx hb dX2_countThere_25 (by decide) ?_
          exact ih4 (k + 1) y (by first | assumption | omega) (by omega) ls (lv_sub hl [1, 2, 0] rfl)
        · skip
          refine lv_iinc (v := y + 1) (lv' := [(1, .int (y + 1)), (0, .ref (h 0)), (2, .int (nI k))]) hx hb dX2_countThere_19 hl (k := 1) rfl (rfl) (by decide) rfl (fun ls hl => ?_)
          refine lv_iinc (v := nI (k + 1)) (lv' := [(2, .int (nI (k + 1))), (1, .int (y + 1)), (0, .ref (h 0))]) hx hb dX2_countThere_22 hl (k := 2) rfl (nI_1 k) (by decide) rfl (fun ls hl => ?_)
          refine lv_goto (tgt := 4) hx hb dX2_countThere_25 (by decide) ?_
          exact ih4 (k + 1) (y + 1) (by first | assumption | omega) (by omega) ls (lv_sub hl [2, 1, 0] rfl)
  exact LP4 (4 - 0 + 1) 0 (nI 0) (by first | assumption | omega) (Nat.lt_succ_self _) ls (lv_sub hl [2, 1, 0] rfl)
set_option maxHeartbeats 1000000 in
set_option maxRecDepth 100000 in
theorem mt_X2_lay (l : Launch) (G : gG) (h : Nat → Nat) (sz : Nat) (z : oS) (jj : Nat → Nat → Int64) (j : Nat) (n1 : Int32) (hj4 : j < 4) : Met l yX2_lay wsX2_lay ({ frames := 0, cells := 0, slots := 0, locals := 0 }) (preW G (sv G h z jj) sz [.ref (h 0), .int (nI j), .int n1]) (va_Qv (fun (v : oS × (Nat → Nat → Int64)) => ∃ jj', v = (oA z 1 (upd (z.2 1) j n1), jj')) (fun v t => PP G (sv G h v.1 v.2) t.heap) (va_A (sv G h z jj) sz)) 0 0 (va_A (sv G h z jj) sz) := by
  refine Met.ofW (cc := cX2_lay) (maxL := 4) (ret := none) (by decide) rfl ?_
  intro p e s m args below meth c s₁ B hml hv
  obtain ⟨ha, hsz, hP, hK, hN, hD0⟩ := hv
  subst ha
  have hx := B.exec
  have hb := B.bytes
  have hr := B.returns
  have hts := atoms_spec (ws := wsX2_lay) B.pre
  have hown : s.vm.findClass RX2 = some m.cls := findClass_of_methodNamed B.named
  have hlocks := B.notSynchronized
  subst hsz
  have hD := hD0.self (sz := s.heap.size)
  generalize hAe : va_A (sv G h z jj) s.heap.size = A at hD ⊢
  have hA : ∀ q : Nat, s.heap.size ≤ q → A q := fun q h => by rw [← hAe]; exact Or.inr h
  clear hAe hD0
  have hS : va_S A s.heap s.heap [] := va_S.rf
  have hiX2 : ∀ w ∈ wsX20, w ∈ wsX2_lay := by decide +kernel
  have k11 := hts (.fieldLink RX2 11 "WovenHistory$Sheets" "numbers" "[[J") (List.mem_of_getElem? (i := 1) rfl)
  have k16 := hts (.fieldLink RX2 16 "WovenHistory$Sheets" "sizes" "[I") (List.mem_of_getElem? (i := 2) rfl)
  have hl := lv_entry ([.ref (h 0), .int (nI j), .int n1]) (n := 4) (Nat.le_of_ble_eq_true rfl)
  rw [lg_entry_eq]
  generalize (lg_sl ([.ref (h 0), .int (nI j), .int n1]) ++ List.replicate (4 - (lg_sl ([.ref (h 0), .int (nI j), .int n1])).length) Slot.unset).toArray = ls at hl ⊢
  have hl : lv_has ls 4 [(0, .ref (h 0)), (1, .int (nI j)), (2, .int n1)] := hl
  rcases (show j = 0 ∨ j = 1 ∨ j = 2 ∨ j = 3 by omega) with rfl | rfl | rfl | rfl
  · skip
    refine lv_iconst (v := nI 0) hx hb dX2_lay_0 (by decide) ?_
    refine lv_istore_n (lv' := [(3, .int (nI 0)), (0, .ref (h 0)), (1, .int (nI 0)), (2, .int n1)]) hx hb dX2_lay_1 rfl hl (by decide) rfl (fun ls hl => ?_)
    have LP2 : ∀ (n2m : Nat), ∀ (k : Nat) (jk : Nat → Nat → Int64) (hk : k ≤ 40), (40 - k < n2m) → ∀ (H : Heap) (locs : List Loc) (ls : Array Slot), PP G (sv G h z jk) H → va_D A (sv G h z jk) → va_S A s.heap H locs → lv_has ls 4 [(0, .ref (h 0)), (1, .int (nI 0)), (2, .int n1), (3, .int (nI k))] → W p l e (headSpec wsX2_lay ({ frames := 0, cells := 0, slots := 0, locals := 0 })).room s m ([.ref (h 0), .int (nI 0), .int n1] : List Value).toArray below meth c H locs 0 0 (MQ below (va_Qv (fun (v : oS × (Nat → Nat → Int64)) => ∃ jj', v = (oA z 1 (upd (z.2 1) 0 n1), jj')) (fun v t => PP G (sv G h v.1 v.2) t.heap) A) ([.ref (h 0), .int (nI 0), .int n1] : List Value).toArray s 0 0 A) (F0 m 2 ls []) := by
      intro n2m
      induction n2m with
      | zero => intro k jk hk hmu H locs ls hP hD hS hl; exact absurd hmu (Nat.not_lt_zero _)
      | succ n2m ih2 =>
        intro k jk hk hmu H locs ls hP hD hS hl
        refine lv_iload_n hx hb dX2_lay_2 rfl (lv_at hl 3 rfl) ?_
        refine lv_bipush (v := nI 40) hx hb dX2_lay_3 (by decide) ?_
        refine lv_icmp_ge (tgt := 23) hx hb dX2_lay_5 (by decide) (fun c5 => ?_) (fun c5 => ?_)
        · skip
          have n5 : 40 ≤ k := (nI_leI (a := 40) (b := k) (by omega) (by omega)).mp c5
          refine lv_aload_n hx hb dX2_lay_23 rfl (lv_at hl 0 rfl) ?_
          refine va_get (D := gD G) (ci := 2) (v := .ref (h 2)) (C := RX2) (T := TX2) (N := 2) hx hb hts hiX2 hown hK hP 0 rfl rfl 1 (by decide) k16 (fun _ h9 => h9) rfl dX2_lay_24 ?_
          refine lv_iload_n hx hb dX2_lay_27 rfl (lv_at hl 1 rfl) ?_
          refine lv_iload_n hx hb dX2_lay_28 rfl (lv_at hl 2 rfl) ?_
          refine iastN (f := z.2 1) (n := 4) (k := 0) hx hb hK hP hD hS 2 rfl rfl (by omega) dX2_lay_29 (fun H locs hP hD hS => ?_)
          have hP : PP G (sv G h (oA z 1 (upd (z.2 1) 0 n1)) jk) H := hP
          have hD : va_D A (sv G h (oA z 1 (upd (z.2 1) 0 n1)) jk) := hD
          exact W.vret hx hb hr (fun t ht hW => ⟨⟨(oA z 1 (upd (z.2 1) 0 n1), jk), rfl, ⟨_, rfl⟩, show PP G (sv G h (oA z 1 (upd (z.2 1) 0 n1)) jk) t.heap by rw [ht]; exact hP⟩, hS.F ht⟩) hS.2.2 dX2_lay_30
        · skip
          have n5 : ¬ (40 ≤ k) := fun q9 => c5 ((nI_leI (a := 40) (b := k) (by omega) (by omega)).mpr q9)
          refine lv_aload_n hx hb dX2_lay_8 rfl (lv_at hl 0 rfl) ?_
          refine va_get (D := gD G) (ci := 2) (v := .ref (h 1)) (C := RX2) (T := TX2) (N := 2) hx hb hts hiX2 hown hK hP 0 rfl rfl 0 (by decide) k11 (fun _ h9 => h9) rfl dX2_lay_9 ?_
          refine lv_iload_n hx hb dX2_lay_12 rfl (lv_at hl 1 rfl) ?_
          refine aaldJ (f := fun i => some (h (3 + i))) (n := 4) (k := 0) (b := h 3) hx hb hK hP 1 rfl rfl (by decide) rfl dX2_lay_13 ?_
          refine lv_iload_n hx hb dX2_lay_14 rfl (lv_at hl 3 rfl) ?_
          refine lv_lconst (v := 0) hx hb dX2_lay_15 (by decide) ?_
          refine lastN (f := jk 0) (n := 40) (k := k) hx hb hK hP hD hS 3 rfl rfl (by omega) dX2_lay_16 (fun H locs hP hD hS => ?_)
          have hP : PP G (sv G h z (va_up jk 0 (vp_updL (jk 0) k 0))) H := hP
          have hD : va_D A (sv G h z (va_up jk 0 (vp_updL (jk 0) k 0))) := hD
          refine lv_iinc (v := nI (k + 1)) (lv' := [(3, .int (nI (k + 1))), (0, .ref (h 0)), (1, .int (nI 0)), (2, .int n1)]) hx hb dX2_lay_17 hl (k := 3) rfl (nI_1 k) (by decide) rfl (fun ls hl => ?_)
          refine lv_goto (tgt := 2) hx hb dX2_lay_20 (by decide) ?_
          exact ih2 (k + 1) (va_up jk 0 (vp_updL (jk 0) k 0)) (by first | assumption | omega) (by omega) _ _ ls hP hD hS (lv_sub hl [1, 2, 3, 0] rfl)
    exact LP2 (40 - 0 + 1) 0 jj (by first | assumption | omega) (Nat.lt_succ_self _) _ _ ls hP hD hS (lv_sub hl [1, 2, 3, 0] rfl)
  · skip
    refine lv_iconst (v := nI 0) hx hb dX2_lay_0 (by decide) ?_
    refine lv_istore_n (lv' := [(3, .int (nI 0)), (0, .ref (h 0)), (1, .int (nI 1)), (2, .int n1)]) hx hb dX2_lay_1 rfl hl (by decide) rfl (fun ls hl => ?_)
    have LP2 : ∀ (n2m : Nat), ∀ (k : Nat) (jk : Nat → Nat → Int64) (hk : k ≤ 40), (40 - k < n2m) → ∀ (H : Heap) (locs : List Loc) (ls : Array Slot), PP G (sv G h z jk) H → va_D A (sv G h z jk) → va_S A s.heap H locs → lv_has ls 4 [(0, .ref (h 0)), (1, .int (nI 1)), (2, .int n1), (3, .int (nI k))] → W p l e (headSpec wsX2_lay ({ frames := 0, cells := 0, slots := 0, locals := 0 })).room s m ([.ref (h 0), .int (nI 1), .int n1] : List Value).toArray below meth c H locs 0 0 (MQ below (va_Qv (fun (v : oS × (Nat → Nat → Int64)) => ∃ jj', v = (oA z 1 (upd (z.2 1) 1 n1), jj')) (fun v t => PP G (sv G h v.1 v.2) t.heap) A) ([.ref (h 0), .int (nI 1), .int n1] : List Value).toArray s 0 0 A) (F0 m 2 ls []) := by
      intro n2m
      induction n2m with
      | zero => intro k jk hk hmu H locs ls hP hD hS hl; exact absurd hmu (Nat.not_lt_zero _)
      | succ n2m ih2 =>
        intro k jk hk hmu H locs ls hP hD hS hl
        refine lv_iload_n hx hb dX2_lay_2 rfl (lv_at hl 3 rfl) ?_
        refine lv_bipush (v := nI 40) hx hb dX2_lay_3 (by decide) ?_
        refine lv_icmp_ge (tgt := 23) hx hb dX2_lay_5 (by decide) (fun c5 => ?_) (fun c5 => ?_)
        · skip
          have n5 : 40 ≤ k := (nI_leI (a := 40) (b := k) (by omega) (by omega)).mp c5
          refine lv_aload_n hx hb dX2_lay_23 rfl (lv_at hl 0 rfl) ?_
          refine va_get (D := gD G) (ci := 2) (v := .ref (h 2)) (C := RX2) (T := TX2) (N := 2) hx hb hts hiX2 hown hK hP 0 rfl rfl 1 (by decide) k16 (fun _ h9 => h9) rfl dX2_lay_24 ?_
          refine lv_iload_n hx hb dX2_lay_27 rfl (lv_at hl 1 rfl) ?_
          refine lv_iload_n hx hb dX2_lay_28 rfl (lv_at hl 2 rfl) ?_
          refine iastN (f := z.2 1) (n := 4) (k := 1) hx hb hK hP hD hS 2 rfl rfl (by omega) dX2_lay_29 (fun H locs hP hD hS => ?_)
          have hP : PP G (sv G h (oA z 1 (upd (z.2 1) 1 n1)) jk) H := hP
          have hD : va_D A (sv G h (oA z 1 (upd (z.2 1) 1 n1)) jk) := hD
          exact W.vret hx hb hr (fun t ht hW => ⟨⟨(oA z 1 (upd (z.2 1) 1 n1), jk), rfl, ⟨_, rfl⟩, show PP G (sv G h (oA z 1 (upd (z.2 1) 1 n1)) jk) t.heap by rw [ht]; exact hP⟩, hS.F ht⟩) hS.2.2 dX2_lay_30
        · skip
          have n5 : ¬ (40 ≤ k) := fun q9 => c5 ((nI_leI (a := 40) (b := k) (by omega) (by omega)).mpr q9)
          refine lv_aload_n hx hb dX2_lay_8 rfl (lv_at hl 0 rfl) ?_
          refine va_get (D := gD G) (ci := 2) (v := .ref (h 1)) (C := RX2) (T := TX2) (N := 2) hx hb hts hiX2 hown hK hP 0 rfl rfl 0 (by decide) k11 (fun _ h9 => h9) rfl dX2_lay_9 ?_
          refine lv_iload_n hx hb dX2_lay_12 rfl (lv_at hl 1 rfl) ?_
          refine aaldJ (f := fun i => some (h (3 + i))) (n := 4) (k := 1) (b := h 4) hx hb hK hP 1 rfl rfl (by decide) rfl dX2_lay_13 ?_
          refine lv_iload_n hx hb dX2_lay_14 rfl (lv_at hl 3 rfl) ?_
          refine lv_lconst (v := 0) hx hb dX2_lay_15 (by decide) ?_
          refine lastN (f := jk 1) (n := 40) (k := k) hx hb hK hP hD hS 4 rfl rfl (by omega) dX2_lay_16 (fun H locs hP hD hS => ?_)
          have hP : PP G (sv G h z (va_up jk 1 (vp_updL (jk 1) k 0))) H := hP
          have hD : va_D A (sv G h z (va_up jk 1 (vp_updL (jk 1) k 0))) := hD
          refine lv_iinc (v := nI (k + 1)) (lv' := [(3, .int (nI (k + 1))), (0, .ref (h 0)), (1, .int (nI 1)), (2, .int n1)]) hx hb dX2_lay_17 hl (k := 3) rfl (nI_1 k) (by decide) rfl (fun ls hl => ?_)
          refine lv_goto (tgt := 2) hx hb dX2_lay_20 (by decide) ?_
          exact ih2 (k + 1) (va_up jk 1 (vp_updL (jk 1) k 0)) (by first | assumption | omega) (by omega) _ _ ls hP hD hS (lv_sub hl [1, 2, 3, 0] rfl)
    exact LP2 (40 - 0 + 1) 0 jj (by first | assumption | omega) (Nat.lt_succ_self _) _ _ ls hP hD hS (lv_sub hl [1, 2, 3, 0] rfl)
  · skip
    refine lv_iconst (v := nI 0) hx hb dX2_lay_0 (by decide) ?_
    refine lv_istore_n (lv' := [(3, .int (nI 0)), (0, .ref (h 0)), (1, .int (nI 2)), (2, .int n1)]) hx hb dX2_lay_1 rfl hl (by decide) rfl (fun ls hl => ?_)
    have LP2 : ∀ (n2m : Nat), ∀ (k : Nat) (jk : Nat → Nat → Int64) (hk : k ≤ 40), (40 - k < n2m) → ∀ (H : Heap) (locs : List Loc) (ls : Array Slot), PP G (sv G h z jk) H → va_D A (sv G h z jk) → va_S A s.heap H locs → lv_has ls 4 [(0, .ref (h 0)), (1, .int (nI 2)), (2, .int n1), (3, .int (nI k))] → W p l e (headSpec wsX2_lay ({ frames := 0, cells := 0, slots := 0, locals := 0 })).room s m ([.ref (h 0), .int (nI 2), .int n1] : List Value).toArray below meth c H locs 0 0 (MQ below (va_Qv (fun (v : oS × (Nat → Nat → Int64)) => ∃ jj', v = (oA z 1 (upd (z.2 1) 2 n1), jj')) (fun v t => PP G (sv G h v.1 v.2) t.heap) A) ([.ref (h 0), .int (nI 2), .int n1] : List Value).toArray s 0 0 A) (F0 m 2 ls []) := by
      intro n2m
      induction n2m with
      | zero => intro k jk hk hmu H locs ls hP hD hS hl; exact absurd hmu (Nat.not_lt_zero _)
      | succ n2m ih2 =>
        intro k jk hk hmu H locs ls hP hD hS hl
        refine lv_iload_n hx hb dX2_lay_2 rfl (lv_at hl 3 rfl) ?_
        refine lv_bipush (v := nI 40) hx hb dX2_lay_3 (by decide) ?_
        refine lv_icmp_ge (tgt := 23) hx hb dX2_lay_5 (by decide) (fun c5 => ?_) (fun c5 => ?_)
        · skip
          have n5 : 40 ≤ k := (nI_leI (a := 40) (b := k) (by omega) (by omega)).mp c5
          refine lv_aload_n hx hb dX2_lay_23 rfl (lv_at hl 0 rfl) ?_
          refine va_get (D := gD G) (ci := 2) (v := .ref (h 2)) (C := RX2) (T := TX2) (N := 2) hx hb hts hiX2 hown hK hP 0 rfl rfl 1 (by decide) k16 (fun _ h9 => h9) rfl dX2_lay_24 ?_
          refine lv_iload_n hx hb dX2_lay_27 rfl (lv_at hl 1 rfl) ?_
          refine lv_iload_n hx hb dX2_lay_28 rfl (lv_at hl 2 rfl) ?_
          refine iastN (f := z.2 1) (n := 4) (k := 2) hx hb hK hP hD hS 2 rfl rfl (by omega) dX2_lay_29 (fun H locs hP hD hS => ?_)
          have hP : PP G (sv G h (oA z 1 (upd (z.2 1) 2 n1)) jk) H := hP
          have hD : va_D A (sv G h (oA z 1 (upd (z.2 1) 2 n1)) jk) := hD
          exact W.vret hx hb hr (fun t ht hW => ⟨⟨(oA z 1 (upd (z.2 1) 2 n1), jk), rfl, ⟨_, rfl⟩, show PP G (sv G h (oA z 1 (upd (z.2 1) 2 n1)) jk) t.heap by rw [ht]; exact hP⟩, hS.F ht⟩) hS.2.2 dX2_lay_30
        · skip
          have n5 : ¬ (40 ≤ k) := fun q9 => c5 ((nI_leI (a := 40) (b := k) (by omega) (by omega)).mpr q9)
          refine lv_aload_n hx hb dX2_lay_8 rfl (lv_at hl 0 rfl) ?_
          refine va_get (D := gD G) (ci := 2) (v := .ref (h 1)) (C := RX2) (T := TX2) (N := 2) hx hb hts hiX2 hown hK hP 0 rfl rfl 0 (by decide) k11 (fun _ h9 => h9) rfl dX2_lay_9 ?_
          refine lv_iload_n hx hb dX2_lay_12 rfl (lv_at hl 1 rfl) ?_
          refine aaldJ (f := fun i => some (h (3 + i))) (n := 4) (k := 2) (b := h 5) hx hb hK hP 1 rfl rfl (by decide) rfl dX2_lay_13 ?_
          refine lv_iload_n hx hb dX2_lay_14 rfl (lv_at hl 3 rfl) ?_
          refine lv_lconst (v := 0) hx hb dX2_lay_15 (by decide) ?_
          refine lastN (f := jk 2) (n := 40) (k := k) hx hb hK hP hD hS 5 rfl rfl (by omega) dX2_lay_16 (fun H locs hP hD hS => ?_)
          have hP : PP G (sv G h z (va_up jk 2 (vp_updL (jk 2) k 0))) H := hP
          have hD : va_D A (sv G h z (va_up jk 2 (vp_updL (jk 2) k 0))) := hD
          refine lv_iinc (v := nI (k + 1)) (lv' := [(3, .int (nI (k + 1))), (0, .ref (h 0)), (1, .int (nI 2)), (2, .int n1)]) hx hb dX2_lay_17 hl (k := 3) rfl (nI_1 k) (by decide) rfl (fun ls hl => ?_)
          refine lv_goto (tgt := 2) hx hb dX2_lay_20 (by decide) ?_
          exact ih2 (k + 1) (va_up jk 2 (vp_updL (jk 2) k 0)) (by first | assumption | omega) (by omega) _ _ ls hP hD hS (lv_sub hl [1, 2, 3, 0] rfl)
    exact LP2 (40 - 0 + 1) 0 jj (by first | assumption | omega) (Nat.lt_succ_self _) _ _ ls hP hD hS (lv_sub hl [1, 2, 3, 0] rfl)
  · skip
    refine lv_iconst (v := nI 0) hx hb dX2_lay_0 (by decide) ?_
    refine lv_istore_n (lv' := [(3, .int (nI 0)), (0, .ref (h 0)), (1, .int (nI 3)), (2, .int n1)]) hx hb dX2_lay_1 rfl hl (by decide) rfl (fun ls hl => ?_)
    have LP2 : ∀ (n2m : Nat), ∀ (k : Nat) (jk : Nat → Nat → Int64) (hk : k ≤ 40), (40 - k < n2m) → ∀ (H : Heap) (locs : List Loc) (ls : Array Slot), PP G (sv G h z jk) H → va_D A (sv G h z jk) → va_S A s.heap H locs → lv_has ls 4 [(0, .ref (h 0)), (1, .int (nI 3)), (2, .int n1), (3, .int (nI k))] → W p l e (headSpec wsX2_lay ({ frames := 0, cells := 0, slots := 0, locals := 0 })).room s m ([.ref (h 0), .int (nI 3), .int n1] : List Value).toArray below meth c H locs 0 0 (MQ below (va_Qv (fun (v : oS × (Nat → Nat → Int64)) => ∃ jj', v = (oA z 1 (upd (z.2 1) 3 n1), jj')) (fun v t => PP G (sv G h v.1 v.2) t.heap) A) ([.ref (h 0), .int (nI 3), .int n1] : List Value).toArray s 0 0 A) (F0 m 2 ls []) := by
      intro n2m
      induction n2m with
      | zero => intro k jk hk hmu H locs ls hP hD hS hl; exact absurd hmu (Nat.not_lt_zero _)
      | succ n2m ih2 =>
        intro k jk hk hmu H locs ls hP hD hS hl
        refine lv_iload_n hx hb dX2_lay_2 rfl (lv_at hl 3 rfl) ?_
        refine lv_bipush (v := nI 40) hx hb dX2_lay_3 (by decide) ?_
        refine lv_icmp_ge (tgt := 23) hx hb dX2_lay_5 (by decide) (fun c5 => ?_) (fun c5 => ?_)
        · skip
          have n5 : 40 ≤ k := (nI_leI (a := 40) (b := k) (by omega) (by omega)).mp c5
          refine lv_aload_n hx hb dX2_lay_23 rfl (lv_at hl 0 rfl) ?_
          refine va_get (D := gD G) (ci := 2) (v := .ref (h 2)) (C := RX2) (T := TX2) (N := 2) hx hb hts hiX2 hown hK hP 0 rfl rfl 1 (by decide) k16 (fun _ h9 => h9) rfl dX2_lay_24 ?_
          refine lv_iload_n hx hb dX2_lay_27 rfl (lv_at hl 1 rfl) ?_
          refine lv_iload_n hx hb dX2_lay_28 rfl (lv_at hl 2 rfl) ?_
          refine iastN (f := z.2 1) (n := 4) (k := 3) hx hb hK hP hD hS 2 rfl rfl (by omega) dX2_lay_29 (fun H locs hP hD hS => ?_)
          have hP : PP G (sv G h (oA z 1 (upd (z.2 1) 3 n1)) jk) H := hP
          have hD : va_D A (sv G h (oA z 1 (upd (z.2 1) 3 n1)) jk) := hD
          exact W.vret hx hb hr (fun t ht hW => ⟨⟨(oA z 1 (upd (z.2 1) 3 n1), jk), rfl, ⟨_, rfl⟩, show PP G (sv G h (oA z 1 (upd (z.2 1) 3 n1)) jk) t.heap by rw [ht]; exact hP⟩, hS.F ht⟩) hS.2.2 dX2_lay_30
        · skip
          have n5 : ¬ (40 ≤ k) := fun q9 => c5 ((nI_leI (a := 40) (b := k) (by omega) (by omega)).mpr q9)
          refine lv_aload_n hx hb dX2_lay_8 rfl (lv_at hl 0 rfl) ?_
          refine va_get (D := gD G) (ci := 2) (v := .ref (h 1)) (C := RX2) (T := TX2) (N := 2) hx hb hts hiX2 hown hK hP 0 rfl rfl 0 (by decide) k11 (fun _ h9 => h9) rfl dX2_lay_9 ?_
          refine lv_iload_n hx hb dX2_lay_12 rfl (lv_at hl 1 rfl) ?_
          refine aaldJ (f := fun i => some (h (3 + i))) (n := 4) (k := 3) (b := h 6) hx hb hK hP 1 rfl rfl (by decide) rfl dX2_lay_13 ?_
          refine lv_iload_n hx hb dX2_lay_14 rfl (lv_at hl 3 rfl) ?_
          refine lv_lconst (v := 0) hx hb dX2_lay_15 (by decide) ?_
          refine lastN (f := jk 3) (n := 40) (k := k) hx hb hK hP hD hS 6 rfl rfl (by omega) dX2_lay_16 (fun H locs hP hD hS => ?_)
          have hP : PP G (sv G h z (va_up jk 3 (vp_updL (jk 3) k 0))) H := hP
          have hD : va_D A (sv G h z (va_up jk 3 (vp_updL (jk 3) k 0))) := hD
          refine lv_iinc (v := nI (k + 1)) (lv' := [(3, .int (nI (k + 1))), (0, .ref (h 0)), (1, .int (nI 3)), (2, .int n1)]) hx hb dX2_lay_17 hl (k := 3) rfl (nI_1 k) (by decide) rfl (fun ls hl => ?_)
          refine lv_goto (tgt := 2) hx hb dX2_lay_20 (by decide) ?_
          exact ih2 (k + 1) (va_up jk 3 (vp_updL (jk 3) k 0)) (by first | assumption | omega) (by omega) _ _ ls hP hD hS (lv_sub hl [1, 2, 3, 0] rfl)
    exact LP2 (40 - 0 + 1) 0 jj (by first | assumption | omega) (Nat.lt_succ_self _) _ _ ls hP hD hS (lv_sub hl [1, 2, 3, 0] rfl)
set_option maxHeartbeats 1000000 in
set_option maxRecDepth 100000 in
theorem mt_X2_findWrong (l : Launch) (G : gG) (h : Nat → Nat) (z : oS) (jj : Nat → Nat → Int64) (s1 : Int32) (i1 : Int32) (n1 : Int32) (hsz : ∀ j, j < 4 → z.2 1 j = -1 ∨ ∃ q, q ≤ 40 ∧ z.2 1 j = nI q) : Met l yX2_findWrong wsX2_findWrong ({ frames := 1, cells := 0, slots := 0, locals := 21 }) (preR G (sv G h z jj) [.ref (h 0), .int s1, .int i1, .int n1]) (vp_Si (fun r : Int32 => (r = 0 ∧ ∃ js ji nn q, js < 4 ∧ s1 = nI js ∧ q ≤ 40 ∧ z.2 1 js = nI q ∧ i1 = nI ji ∧ n1 = nI nn ∧ ji + nn ≤ q) ∨ (r = -1000000001 ∧ ∀ j, j < 4 → s1 ≠ nI j) ∨ (r = -1000000011 ∧ ∃ js, js < 4 ∧ s1 = nI js ∧ z.2 1 js = -1) ∨ (r = -1000000012 ∧ ∃ js q, js < 4 ∧ s1 = nI js ∧ q ≤ 40 ∧ z.2 1 js = nI q ∧ ¬ ∃ ji nn, i1 = nI ji ∧ n1 = nI nn ∧ ji + nn ≤ q))) 0 0 (fun _ => False) := by
  refine Met.ofW (cc := cX2_findWrong) (maxL := 4) (ret := (some .int)) (by decide) rfl ?_
  intro p e s m args below meth c s₁ B hml hv
  obtain ⟨ha, hP, hK, hN⟩ := hv
  subst ha
  have hx := B.exec
  have hb := B.bytes
  have hr := B.returns
  have hts := atoms_spec (ws := wsX2_findWrong) B.pre
  have hown : s.vm.findClass RX2 = some m.cls := findClass_of_methodNamed B.named
  have hlocks := B.notSynchronized
  have hiX2 : ∀ w ∈ wsX20, w ∈ wsX2_findWrong := by decide +kernel
  have k16 := hts (.fieldLink RX2 16 "WovenHistory$Sheets" "sizes" "[I") (List.mem_of_getElem? (i := 2) rfl)
  have hl := lv_entry ([.ref (h 0), .int s1, .int i1, .int n1]) (n := 4) (Nat.le_of_ble_eq_true rfl)
  rw [lg_entry_eq]
  generalize (lg_sl ([.ref (h 0), .int s1, .int i1, .int n1]) ++ List.replicate (4 - (lg_sl ([.ref (h 0), .int s1, .int i1, .int n1])).length) Slot.unset).toArray = ls at hl ⊢
  have hl : lv_has ls 4 [(0, .ref (h 0)), (1, .int s1), (2, .int i1), (3, .int n1)] := hl
  refine lv_aload_n hx hb dX2_findWrong_0 rfl (lv_at hl 0 rfl) ?_
  refine lv_iload_n hx hb dX2_findWrong_1 rfl (lv_at hl 1 rfl) ?_
  refine cRi (w := sv G h z jj) (As := [.int s1]) (rest := []) ⟨hx, hb, hml, hown, hts⟩ (mt_X2_hasNumber l G h z jj s1) (cwV 1 hts gX2_findWrong_X2_hasNumber rfl rfl rfl (by decide +kernel) ⟨Nat.le_of_ble_eq_true rfl, Nat.le_of_ble_eq_true rfl⟩) hK hN hP 0 2 rfl rfl rfl hl.1 rfl (Nat.le_of_ble_eq_true rfl) ⟨Nat.zero_le _, Nat.zero_le _⟩ dX2_findWrong_2 (fun r2 hw2 => ?_)
  rcases hw2 with ⟨rfl, j2, hj2, rfl⟩ | ⟨rfl, hn2⟩
  · skip
    refine lv_if_ne (tgt := 11) hx hb dX2_findWrong_5 (by decide) (fun _ => ?_) (fun c9 => absurd c9 (by decide))
    refine lv_aload_n hx hb dX2_findWrong_11 rfl (lv_at hl 0 rfl) ?_
    refine va_get (D := gD G) (ci := 2) (v := .ref (h 2)) (C := RX2) (T := TX2) (N := 2) hx hb hts hiX2 hown hK hP 0 rfl rfl 1 (by decide) k16 (fun _ h9 => h9) rfl dX2_findWrong_12 ?_
    refine lv_iload_n hx hb dX2_findWrong_15 rfl (lv_at hl 1 rfl) ?_
    refine ialdN (f := z.2 1) (n := 4) (k := j2) hx hb hK hP 2 rfl rfl (by omega) dX2_findWrong_16 ?_
    refine lv_iconst (v := (-1 : Int32)) hx hb dX2_findWrong_17 (by decide) ?_
    refine lv_icmp_ne (tgt := 24) hx hb dX2_findWrong_18 (by decide) (fun c18 => ?_) (fun c18 => ?_)
    · skip
      obtain ⟨q18, hq18, eq18⟩ := (hsz j2 hj2).resolve_left c18
      refine lv_iload_n hx hb dX2_findWrong_24 rfl (lv_at hl 2 rfl) ?_
      refine lv_if_lt (tgt := 54) hx hb dX2_findWrong_25 (by decide) (fun c25 => ?_) (fun c25 => ?_)
      · skip
        refine lv_ldc (v := (-1000000012 : Int32)) hx hb hown (hts (.constant RX2 26 (-1000000012)) (List.mem_of_getElem? (i := 4) rfl)) dX2_findWrong_54 ?_
        exact W.iret (v := (-1000000012 : Int32)) hx hb hr (fun t ht hW => ⟨(-1000000012 : Int32), rfl, Or.inr (Or.inr (Or.inr ⟨rfl, j2, q18, hj2, rfl, hq18, eq18, fw_n hq18 (by first | exact Or.inl (by assumption) | exact Or.inr (Or.inl (by assumption)) | exact Or.inr (Or.inr (Or.inl (by assumption))) | exact Or.inr (Or.inr (Or.inr ⟨by assumption, by assumption, by assumption⟩)))⟩)), ht⟩) (fun _ h9 => by cases h9) dX2_findWrong_56
      · skip
        refine lv_iload_n hx hb dX2_findWrong_28 rfl (lv_at hl 3 rfl) ?_
        refine lv_if_lt (tgt := 54) hx hb dX2_findWrong_29 (by decide) (fun c29 => ?_) (fun c29 => ?_)
        · skip
          refine lv_ldc (v := (-1000000012 : Int32)) hx hb hown (hts (.constant RX2 26 (-1000000012)) (List.mem_of_getElem? (i := 4) rfl)) dX2_findWrong_54 ?_
          exact W.iret (v := (-1000000012 : Int32)) hx hb hr (fun t ht hW => ⟨(-1000000012 : Int32), rfl, Or.inr (Or.inr (Or.inr ⟨rfl, j2, q18, hj2, rfl, hq18, eq18, fw_n hq18 (by first | exact Or.inl (by assumption) | exact Or.inr (Or.inl (by assumption)) | exact Or.inr (Or.inr (Or.inl (by assumption))) | exact Or.inr (Or.inr (Or.inr ⟨by assumption, by assumption, by assumption⟩)))⟩)), ht⟩) (fun _ h9 => by cases h9) dX2_findWrong_56
        · skip
          refine lv_iload_n hx hb dX2_findWrong_32 rfl (lv_at hl 2 rfl) ?_
          refine lv_aload_n hx hb dX2_findWrong_33 rfl (lv_at hl 0 rfl) ?_
          refine va_get (D := gD G) (ci := 2) (v := .ref (h 2)) (C := RX2) (T := TX2) (N := 2) hx hb hts hiX2 hown hK hP 0 rfl rfl 1 (by decide) k16 (fun _ h9 => h9) rfl dX2_findWrong_34 ?_
          refine lv_iload_n hx hb dX2_findWrong_37 rfl (lv_at hl 1 rfl) ?_
          refine ialdN (f := z.2 1) (n := 4) (k := j2) hx hb hK hP 2 rfl rfl (by omega) dX2_findWrong_38 ?_
          refine topE eq18 ?_
          refine lv_icmp_gt (tgt := 54) hx hb dX2_findWrong_39 (by decide) (fun c39 => ?_) (fun c39 => ?_)
          · skip
            refine lv_ldc (v := (-1000000012 : Int32)) hx hb hown (hts (.constant RX2 26 (-1000000012)) (List.mem_of_getElem? (i := 4) rfl)) dX2_findWrong_54 ?_
            exact W.iret (v := (-1000000012 : Int32)) hx hb hr (fun t ht hW => ⟨(-1000000012 : Int32), rfl, Or.inr (Or.inr (Or.inr ⟨rfl, j2, q18, hj2, rfl, hq18, eq18, fw_n hq18 (by first | exact Or.inl (by assumption) | exact Or.inr (Or.inl (by assumption)) | exact Or.inr (Or.inr (Or.inl (by assumption))) | exact Or.inr (Or.inr (Or.inr ⟨by assumption, by assumption, by assumption⟩)))⟩)), ht⟩) (fun _ h9 => by cases h9) dX2_findWrong_56
          · skip
            refine lv_iload_n hx hb dX2_findWrong_42 rfl (lv_at hl 3 rfl) ?_
            refine lv_aload_n hx hb dX2_findWrong_43 rfl (lv_at hl 0 rfl) ?_
            refine va_get (D := gD G) (ci := 2) (v := .ref (h 2)) (C := RX2) (T := TX2) (N := 2) hx hb hts hiX2 hown hK hP 0 rfl rfl 1 (by decide) k16 (fun _ h9 => h9) rfl dX2_findWrong_44 ?_
            refine lv_iload_n hx hb dX2_findWrong_47 rfl (lv_at hl 1 rfl) ?_
            refine ialdN (f := z.2 1) (n := 4) (k := j2) hx hb hK hP 2 rfl rfl (by omega) dX2_findWrong_48 ?_
            refine topE eq18 ?_
            refine lv_iload_n hx hb dX2_findWrong_49 rfl (lv_at hl 2 rfl) ?_
            refine lv_isub hx hb dX2_findWrong_50 ?_
            refine lv_icmp_le (tgt := 57) hx hb dX2_findWrong_51 (by decide) (fun c51 => ?_) (fun c51 => ?_)
            · skip
              refine lv_iconst (v := nI 0) hx hb dX2_findWrong_57 (by decide) ?_
              exact W.iret (v := nI 0) hx hb hr (fun t ht hW => ⟨nI 0, rfl, by obtain ⟨ji, nn, e1, e2, e3⟩ := fw_y hq18 c25 c29 c39 c51; exact Or.inl ⟨rfl, j2, ji, nn, q18, hj2, rfl, hq18, eq18, e1, e2, e3⟩, ht⟩) (fun _ h9 => by cases h9) dX2_findWrong_58
            · skip
              refine lv_ldc (v := (-1000000012 : Int32)) hx hb hown (hts (.constant RX2 26 (-1000000012)) (List.mem_of_getElem? (i := 4) rfl)) dX2_findWrong_54 ?_
              exact W.iret (v := (-1000000012 : Int32)) hx hb hr (fun t ht hW => ⟨(-1000000012 : Int32), rfl, Or.inr (Or.inr (Or.inr ⟨rfl, j2, q18, hj2, rfl, hq18, eq18, fw_n hq18 (by first | exact Or.inl (by assumption) | exact Or.inr (Or.inl (by assumption)) | exact Or.inr (Or.inr (Or.inl (by assumption))) | exact Or.inr (Or.inr (Or.inr ⟨by assumption, by assumption, by assumption⟩)))⟩)), ht⟩) (fun _ h9 => by cases h9) dX2_findWrong_56
    · skip
      refine lv_ldc (v := (-1000000011 : Int32)) hx hb hown (hts (.constant RX2 25 (-1000000011)) (List.mem_of_getElem? (i := 3) rfl)) dX2_findWrong_21 ?_
      exact W.iret (v := (-1000000011 : Int32)) hx hb hr (fun t ht hW => ⟨(-1000000011 : Int32), rfl, Or.inr (Or.inr (Or.inl ⟨rfl, j2, hj2, rfl, c18⟩)), ht⟩) (fun _ h9 => by cases h9) dX2_findWrong_23
  · skip
    refine lv_if_ne (tgt := 11) hx hb dX2_findWrong_5 (by decide) (fun c9 => absurd (by decide) c9) (fun _ => ?_)
    refine lv_ldc (v := (-1000000001 : Int32)) hx hb hown (hts (.constant RX2 24 (-1000000001)) (List.mem_of_getElem? (i := 1) rfl)) dX2_findWrong_8 ?_
    exact W.iret (v := (-1000000001 : Int32)) hx hb hr (fun t ht hW => ⟨(-1000000001 : Int32), rfl, Or.inr (Or.inl ⟨rfl, by assumption⟩), ht⟩) (fun _ h9 => by cases h9) dX2_findWrong_10
set_option maxHeartbeats 1000000 in
set_option maxRecDepth 100000 in
theorem mt_X0_start (l : Launch) (G : gG) (h : Nat → Nat) (sz : Nat) (lt : Int64) (x : Int32) : Met l yX0_start wsX0_start ({ frames := 0, cells := 0, slots := 0, locals := 0 }) (preW G (tv G h lt) sz [.ref (h 0), .int x]) (va_Qv (fun (v : Int64) => True) (fun v t => PP G (tv G h v) t.heap) (va_A (tv G h lt) sz)) 0 0 (va_A (tv G h lt) sz) := by
  refine Met.ofW (cc := cX0_start) (maxL := 2) (ret := none) (by decide) rfl ?_
  intro p e s m args below meth c s₁ B hml hv
  obtain ⟨ha, hsz, hP, hK, hN, hD0⟩ := hv
  subst ha
  have hx := B.exec
  have hb := B.bytes
  have hr := B.returns
  have hts := atoms_spec (ws := wsX0_start) B.pre
  have hown : s.vm.findClass RX0 = some m.cls := findClass_of_methodNamed B.named
  have hlocks := B.notSynchronized
  subst hsz
  have hD := hD0.self (sz := s.heap.size)
  generalize hAe : va_A (tv G h lt) s.heap.size = A at hD ⊢
  have hA : ∀ q : Nat, s.heap.size ≤ q → A q := fun q h => by rw [← hAe]; exact Or.inr h
  clear hAe hD0
  have hS : va_S A s.heap s.heap [] := va_S.rf
  have hiX0 : ∀ w ∈ wsX00, w ∈ wsX0_start := by decide +kernel
  have k7 := hts (.fieldLink RX0 7 "WovenHistory$Lots" "x" "J") (List.mem_of_getElem? (i := 1) rfl)
  have hl := lv_entry ([.ref (h 0), .int x]) (n := 2) (Nat.le_of_ble_eq_true rfl)
  rw [lg_entry_eq]
  generalize (lg_sl ([.ref (h 0), .int x]) ++ List.replicate (2 - (lg_sl ([.ref (h 0), .int x])).length) Slot.unset).toArray = ls at hl ⊢
  have hl : lv_has ls 2 [(0, .ref (h 0)), (1, .int x)] := hl
  refine lv_aload_n hx hb dX0_start_0 rfl (lv_at hl 0 rfl) ?_
  refine lv_iload_n hx hb dX0_start_1 rfl (lv_at hl 1 rfl) ?_
  refine lv_i2l (v := x.toInt64) hx hb dX0_start_2 rfl ?_
  refine va_put (D := gD G) (ci := 0) (v := .long x.toInt64) (ty := .long) (C := RX0) (T := TX0) (N := 1) hx hb hts hiX0 tyX0 tyX0_ok nmX0 hown hK hP hD hS 0 rfl rfl 0 (by decide) k7 (fun _ h9 => h9) rfl (by decide +kernel) (rfl) (rfl) (Nat.le_of_ble_eq_true rfl) dX0_start_3 (fun H locs hP hD hS => ?_)
  have hP : PP G (tv G h x.toInt64) H := hP
  have hD : va_D A (tv G h x.toInt64) := hD
  exact W.vret hx hb hr (fun t ht hW => ⟨⟨x.toInt64, rfl, trivial, show PP G (tv G h x.toInt64) t.heap by rw [ht]; exact hP⟩, hS.F ht⟩) hS.2.2 dX0_start_6
set_option maxHeartbeats 1000000 in
set_option maxRecDepth 100000 in
theorem mt_X0_below (l : Launch) (G : gG) (h : Nat → Nat) (sz : Nat) (lt : Int64) (x : Int32) : Met l yX0_below wsX0_below ({ frames := 0, cells := 0, slots := 0, locals := 0 }) (preW G (tv G h lt) sz [.ref (h 0), .int x]) (va_Qi (fun (r : Int32) (v : Int64) => True) (fun v t => PP G (tv G h v) t.heap) (va_A (tv G h lt) sz)) 0 0 (va_A (tv G h lt) sz) := by
  refine Met.ofW (cc := cX0_below) (maxL := 2) (ret := (some .int)) (by decide) rfl ?_
  intro p e s m args below meth c s₁ B hml hv
  obtain ⟨ha, hsz, hP, hK, hN, hD0⟩ := hv
  subst ha
  have hx := B.exec
  have hb := B.bytes
  have hr := B.returns
  have hts := atoms_spec (ws := wsX0_below) B.pre
  have hown : s.vm.findClass RX0 = some m.cls := findClass_of_methodNamed B.named
  have hlocks := B.notSynchronized
  subst hsz
  have hD := hD0.self (sz := s.heap.size)
  generalize hAe : va_A (tv G h lt) s.heap.size = A at hD ⊢
  have hA : ∀ q : Nat, s.heap.size ≤ q → A q := fun q h => by rw [← hAe]; exact Or.inr h
  clear hAe hD0
  have hS : va_S A s.heap s.heap [] := va_S.rf
  have hiX0 : ∀ w ∈ wsX00, w ∈ wsX0_below := by decide +kernel
  have k7 := hts (.fieldLink RX0 7 "WovenHistory$Lots" "x" "J") (List.mem_of_getElem? (i := 1) rfl)
  have hl := lv_entry ([.ref (h 0), .int x]) (n := 2) (Nat.le_of_ble_eq_true rfl)
  rw [lg_entry_eq]
  generalize (lg_sl ([.ref (h 0), .int x]) ++ List.replicate (2 - (lg_sl ([.ref (h 0), .int x])).length) Slot.unset).toArray = ls at hl ⊢
  have hl : lv_has ls 2 [(0, .ref (h 0)), (1, .int x)] := hl
  refine lv_aload_n hx hb dX0_below_0 rfl (lv_at hl 0 rfl) ?_
  refine lv_aload_n hx hb dX0_below_1 rfl (lv_at hl 0 rfl) ?_
  refine va_get (D := gD G) (ci := 0) (v := .long lt) (C := RX0) (T := TX0) (N := 1) hx hb hts hiX0 hown hK hP 0 rfl rfl 0 (by decide) k7 (fun _ h9 => h9) rfl dX0_below_2 ?_
  refine lv_ldc2 (v := 16807) hx hb hown (hts (.constantLong RX0 13 (16807)) (List.mem_of_getElem? (i := 2) rfl)) dX0_below_5 ?_
  refine lv_lmul hx hb dX0_below_8 ?_
  refine lv_ldc2 (v := 2147483647) hx hb hown (hts (.constantLong RX0 15 (2147483647)) (List.mem_of_getElem? (i := 3) rfl)) dX0_below_9 ?_
  refine lv_lrem hx hb dX0_below_12 (by decide) ?_
  refine va_put (D := gD G) (ci := 0) (v := .long ((lt * 16807) - (lt * 16807) / 2147483647 * 2147483647)) (ty := .long) (C := RX0) (T := TX0) (N := 1) hx hb hts hiX0 tyX0 tyX0_ok nmX0 hown hK hP hD hS 0 rfl rfl 0 (by decide) k7 (fun _ h9 => h9) rfl (by decide +kernel) (rfl) (rfl) (Nat.le_of_ble_eq_true rfl) dX0_below_13 (fun H locs hP hD hS => ?_)
  have hP : PP G (tv G h ((lt * 16807) - (lt * 16807) / 2147483647 * 2147483647)) H := hP
  have hD : va_D A (tv G h ((lt * 16807) - (lt * 16807) / 2147483647 * 2147483647)) := hD
  refine lv_iload_n hx hb dX0_below_16 rfl (lv_at hl 1 rfl) ?_
  refine lv_if_le (tgt := 31) hx hb dX0_below_17 (by decide) (fun c17 => ?_) (fun c17 => ?_)
  · skip
    refine lv_iconst (v := nI 0) hx hb dX0_below_31 (by decide) ?_
    exact W.iret (v := nI 0) hx hb hr (fun t ht hW => ⟨⟨nI 0, ((lt * 16807) - (lt * 16807) / 2147483647 * 2147483647), rfl, trivial, show PP G (tv G h ((lt * 16807) - (lt * 16807) / 2147483647 * 2147483647)) t.heap by rw [ht]; exact hP⟩, hS.F ht⟩) hS.2.2 dX0_below_32
  · skip
    refine lv_aload_n hx hb dX0_below_20 rfl (lv_at hl 0 rfl) ?_
    refine va_get (D := gD G) (ci := 0) (v := .long ((lt * 16807) - (lt * 16807) / 2147483647 * 2147483647)) (C := RX0) (T := TX0) (N := 1) hx hb hts hiX0 hown hK hP 0 rfl rfl 0 (by decide) k7 (fun _ h9 => h9) rfl dX0_below_21 ?_
    refine lv_iload_n hx hb dX0_below_24 rfl (lv_at hl 1 rfl) ?_
    refine lv_i2l (v := x.toInt64) hx hb dX0_below_25 rfl ?_
    refine lv_lrem hx hb dX0_below_26 (i64ne c17) ?_
    refine lv_l2i (v := (((lt * 16807) - (lt * 16807) / 2147483647 * 2147483647) - ((lt * 16807) - (lt * 16807) / 2147483647 * 2147483647) / x.toInt64 * x.toInt64).toInt32) hx hb dX0_below_27 rfl ?_
    refine lv_goto (tgt := 32) hx hb dX0_below_28 (by decide) ?_
    exact W.iret (v := (((lt * 16807) - (lt * 16807) / 2147483647 * 2147483647) - ((lt * 16807) - (lt * 16807) / 2147483647 * 2147483647) / x.toInt64 * x.toInt64).toInt32) hx hb hr (fun t ht hW => ⟨⟨(((lt * 16807) - (lt * 16807) / 2147483647 * 2147483647) - ((lt * 16807) - (lt * 16807) / 2147483647 * 2147483647) / x.toInt64 * x.toInt64).toInt32, ((lt * 16807) - (lt * 16807) / 2147483647 * 2147483647), rfl, trivial, show PP G (tv G h ((lt * 16807) - (lt * 16807) / 2147483647 * 2147483647)) t.heap by rw [ht]; exact hP⟩, hS.F ht⟩) hS.2.2 dX0_below_32
set_option maxHeartbeats 1000000 in
set_option maxRecDepth 100000 in
theorem mt_X4_isSign (l : Launch) (x : Int32) : Met l yX4_isSign wsX4_isSign ({ frames := 0, cells := 0, slots := 0, locals := 0 }) (preS [.int x]) (vp_Si (fun r : Int32 => (r = 1 ∧ ¬ x = -1) ∨ r = 0)) 0 0 (fun _ => False) := by
  refine Met.ofW (cc := cX4_isSign) (maxL := 1) (ret := (some .boolean)) (by decide) rfl ?_
  intro p e s m args below meth c s₁ B hml hv
  obtain ⟨ha, -⟩ := hv
  subst ha
  have hx := B.exec
  have hb := B.bytes
  have hr := B.returns
  have hts := atoms_spec (ws := wsX4_isSign) B.pre
  have hown : s.vm.findClass RX4 = some m.cls := findClass_of_methodNamed B.named
  have hlocks := B.notSynchronized
  have hl := lv_entry ([.int x]) (n := 1) (Nat.le_of_ble_eq_true rfl)
  rw [lg_entry_eq]
  generalize (lg_sl ([.int x]) ++ List.replicate (1 - (lg_sl ([.int x])).length) Slot.unset).toArray = ls at hl ⊢
  have hl : lv_has ls 1 [(0, .int x)] := hl
  refine lv_iload_n hx hb dX4_isSign_0 rfl (lv_at hl 0 rfl) ?_
  refine lv_bipush (v := nI 65) hx hb dX4_isSign_1 (by decide) ?_
  refine lv_icmp_lt (tgt := 16) hx hb dX4_isSign_3 (by decide) (fun c3 => ?_) (fun c3 => ?_)
  · skip
    refine lv_iconst (v := nI 0) hx hb dX4_isSign_16 (by decide) ?_
    exact W.zret (v := nI 0) hx hb hr (by decide) (fun t ht hW => ⟨nI 0, rfl, by first | exact Or.inl ⟨rfl, fun e => c3 (by rw [e]; decide)⟩ | exact Or.inr rfl, ht⟩) (fun _ h9 => by cases h9) dX4_isSign_17
  · skip
    refine lv_iload_n hx hb dX4_isSign_6 rfl (lv_at hl 0 rfl) ?_
    refine lv_bipush (v := nI 90) hx hb dX4_isSign_7 (by decide) ?_
    refine lv_icmp_gt (tgt := 16) hx hb dX4_isSign_9 (by decide) (fun c9 => ?_) (fun c9 => ?_)
    · skip
      refine lv_iconst (v := nI 0) hx hb dX4_isSign_16 (by decide) ?_
      exact W.zret (v := nI 0) hx hb hr (by decide) (fun t ht hW => ⟨nI 0, rfl, by first | exact Or.inl ⟨rfl, fun e => c3 (by rw [e]; decide)⟩ | exact Or.inr rfl, ht⟩) (fun _ h9 => by cases h9) dX4_isSign_17
    · skip
      refine lv_iconst (v := nI 1) hx hb dX4_isSign_12 (by decide) ?_
      refine lv_goto (tgt := 17) hx hb dX4_isSign_13 (by decide) ?_
      exact W.zret (v := nI 1) hx hb hr (by decide) (fun t ht hW => ⟨nI 1, rfl, by first | exact Or.inl ⟨rfl, fun e => c3 (by rw [e]; decide)⟩ | exact Or.inr rfl, ht⟩) (fun _ h9 => by cases h9) dX4_isSign_17
set_option maxHeartbeats 1000000 in
set_option maxRecDepth 100000 in
theorem mt_X1_fail (l : Launch) (G : gG) (h : Nat → Nat) (sz : Nat) (rd : oS) (w : oS) (n0 : Int32) (pl : Int32) : Met l yX1_fail wsX1_fail ({ frames := 0, cells := 0, slots := 0, locals := 0 }) (preW G (rv G h rd w) sz [.ref (h 0), .int n0, .int pl]) (va_Qv (fun (v : oS × oS) => ∃ q, v = (q, w) ∧ rel [4, 5] [] rd q) (fun v t => PP G (rv G h v.1 v.2) t.heap) (va_A (rv G h rd w) sz)) 0 0 (va_A (rv G h rd w) sz) := by
  refine Met.ofW (cc := cX1_fail) (maxL := 3) (ret := none) (by decide) rfl ?_
  intro p e s m args below meth c s₁ B hml hv
  obtain ⟨ha, hsz, hP, hK, hN, hD0⟩ := hv
  subst ha
  have hx := B.exec
  have hb := B.bytes
  have hr := B.returns
  have hts := atoms_spec (ws := wsX1_fail) B.pre
  have hown : s.vm.findClass RX1 = some m.cls := findClass_of_methodNamed B.named
  have hlocks := B.notSynchronized
  subst hsz
  have hD := hD0.self (sz := s.heap.size)
  generalize hAe : va_A (rv G h rd w) s.heap.size = A at hD ⊢
  have hA : ∀ q : Nat, s.heap.size ≤ q → A q := fun q h => by rw [← hAe]; exact Or.inr h
  clear hAe hD0
  have hS : va_S A s.heap s.heap [] := va_S.rf
  have hiX1 : ∀ w ∈ wsX10, w ∈ wsX1_fail := by decide +kernel
  have k25 := hts (.fieldLink RX1 25 "WovenHistory$Reader" "faultNumber" "I") (List.mem_of_getElem? (i := 1) rfl)
  have k28 := hts (.fieldLink RX1 28 "WovenHistory$Reader" "faultAt" "I") (List.mem_of_getElem? (i := 2) rfl)
  have hl := lv_entry ([.ref (h 0), .int n0, .int pl]) (n := 3) (Nat.le_of_ble_eq_true rfl)
  rw [lg_entry_eq]
  generalize (lg_sl ([.ref (h 0), .int n0, .int pl]) ++ List.replicate (3 - (lg_sl ([.ref (h 0), .int n0, .int pl])).length) Slot.unset).toArray = ls at hl ⊢
  have hl : lv_has ls 3 [(0, .ref (h 0)), (1, .int n0), (2, .int pl)] := hl
  refine lv_aload_n hx hb dX1_fail_0 rfl (lv_at hl 0 rfl) ?_
  refine va_get (D := gD G) (ci := 1) (v := .int (rd.1 4)) (C := RX1) (T := TX1) (N := 10) hx hb hts hiX1 hown hK hP 0 rfl rfl 4 (by decide) k25 (fun _ h9 => h9) rfl dX1_fail_1 ?_
  refine lv_if_ne (tgt := 17) hx hb dX1_fail_4 (by decide) (fun c4 => ?_) (fun c4 => ?_)
  · skip
    exact W.vret hx hb hr (fun t ht hW => ⟨⟨(rd, w), rfl, ⟨_, rfl, by repeat (first | exact rel.refl _ | exact rel.mono (by assumption) (by decide) (by decide) | refine rel.I (by decide) ?_ | refine rel.A (by decide) ?_ | refine rel.trans ?_ (rel.mono (by assumption) (by decide) (by decide)))⟩, show PP G (rv G h rd w) t.heap by rw [ht]; exact hP⟩, hS.F ht⟩) hS.2.2 dX1_fail_17
  · skip
    refine lv_aload_n hx hb dX1_fail_7 rfl (lv_at hl 0 rfl) ?_
    refine lv_iload_n hx hb dX1_fail_8 rfl (lv_at hl 1 rfl) ?_
    refine va_put (D := gD G) (ci := 1) (v := .int n0) (ty := .int) (C := RX1) (T := TX1) (N := 10) hx hb hts hiX1 tyX1 tyX1_ok nmX1 hown hK hP hD hS 0 rfl rfl 4 (by decide) k25 (fun _ h9 => h9) rfl (by decide +kernel) (rfl) (rfl) (Nat.le_of_ble_eq_true rfl) dX1_fail_9 (fun H locs hP hD hS => ?_)
    have hP : PP G (rv G h (oI rd 4 n0) w) H := hP
    have hD : va_D A (rv G h (oI rd 4 n0) w) := hD
    refine lv_aload_n hx hb dX1_fail_12 rfl (lv_at hl 0 rfl) ?_
    refine lv_iload_n hx hb dX1_fail_13 rfl (lv_at hl 2 rfl) ?_
    refine va_put (D := gD G) (ci := 1) (v := .int pl) (ty := .int) (C := RX1) (T := TX1) (N := 10) hx hb hts hiX1 tyX1 tyX1_ok nmX1 hown hK hP hD hS 0 rfl rfl 5 (by decide) k28 (fun _ h9 => h9) rfl (by decide +kernel) (rfl) (rfl) (Nat.le_of_ble_eq_true rfl) dX1_fail_14 (fun H locs hP hD hS => ?_)
    have hP : PP G (rv G h (oI (oI rd 4 n0) 5 pl) w) H := hP
    have hD : va_D A (rv G h (oI (oI rd 4 n0) 5 pl) w) := hD
    exact W.vret hx hb hr (fun t ht hW => ⟨⟨(oI (oI rd 4 n0) 5 pl, w), rfl, ⟨_, rfl, by repeat (first | exact rel.refl _ | exact rel.mono (by assumption) (by decide) (by decide) | refine rel.I (by decide) ?_ | refine rel.A (by decide) ?_ | refine rel.trans ?_ (rel.mono (by assumption) (by decide) (by decide)))⟩, show PP G (rv G h (oI (oI rd 4 n0) 5 pl) w) t.heap by rw [ht]; exact hP⟩, hS.F ht⟩) hS.2.2 dX1_fail_17
set_option maxHeartbeats 1000000 in
set_option maxRecDepth 100000 in
theorem mt_X1_nextSign (l : Launch) (G : gG) (h : Nat → Nat) (sz : Nat) (rd : oS) (w : oS) (len : Nat) (a0 : Nat) (hlen : rd.1 1 = nI len) (ha0 : rd.1 2 = nI a0) (hl240 : len ≤ 240) (hAn : a0 ≤ len) : Met l yX1_nextSign wsX1_nextSign ({ frames := 0, cells := 0, slots := 0, locals := 0 }) (preW G (rv G h rd w) sz [.ref (h 0)]) (va_Qi (fun (r : Int32) (v : oS × oS) => (∃ b, v = (oI rd 2 (nI b), w) ∧ a0 ≤ b ∧ b ≤ len ∧ r = -1) ∨ (∃ b, v = (oI rd 2 (nI b), w) ∧ a0 ≤ b ∧ b < len ∧ r = rd.2 0 b)) (fun v t => PP G (rv G h v.1 v.2) t.heap) (va_A (rv G h rd w) sz)) 0 0 (va_A (rv G h rd w) sz) := by
  refine Met.ofW (cc := cX1_nextSign) (maxL := 1) (ret := (some .int)) (by decide) rfl ?_
  intro p e s m args below meth c s₁ B hml hv
  obtain ⟨ha, hsz, hP, hK, hN, hD0⟩ := hv
  subst ha
  have hx := B.exec
  have hb := B.bytes
  have hr := B.returns
  have hts := atoms_spec (ws := wsX1_nextSign) B.pre
  have hown : s.vm.findClass RX1 = some m.cls := findClass_of_methodNamed B.named
  have hlocks := B.notSynchronized
  subst hsz
  have hD := hD0.self (sz := s.heap.size)
  generalize hAe : va_A (rv G h rd w) s.heap.size = A at hD ⊢
  have hA : ∀ q : Nat, s.heap.size ≤ q → A q := fun q h => by rw [← hAe]; exact Or.inr h
  clear hAe hD0
  have hS : va_S A s.heap s.heap [] := va_S.rf
  have hiX1 : ∀ w ∈ wsX10, w ∈ wsX1_nextSign := by decide +kernel
  have k19 := hts (.fieldLink RX1 19 "WovenHistory$Reader" "at" "I") (List.mem_of_getElem? (i := 1) rfl)
  have k15 := hts (.fieldLink RX1 15 "WovenHistory$Reader" "length" "I") (List.mem_of_getElem? (i := 2) rfl)
  have k9 := hts (.fieldLink RX1 9 "WovenHistory$Reader" "letters" "[I") (List.mem_of_getElem? (i := 3) rfl)
  have k25 := hts (.fieldLink RX1 25 "WovenHistory$Reader" "faultNumber" "I") (List.mem_of_getElem? (i := 4) rfl)
  have hl := lv_entry ([.ref (h 0)]) (n := 1) (Nat.le_of_ble_eq_true rfl)
  rw [lg_entry_eq]
  generalize (lg_sl ([.ref (h 0)]) ++ List.replicate (1 - (lg_sl ([.ref (h 0)])).length) Slot.unset).toArray = ls at hl ⊢
  have hl : lv_has ls 1 [(0, .ref (h 0))] := hl
  have hP : PP G (rv G h (oI rd 2 (nI a0)) w) s.heap := by rw [oI_self ha0]; exact hP
  have hD : va_D A (rv G h (oI rd 2 (nI a0)) w) := by rw [oI_self ha0]; exact hD
  have LP0 : ∀ (n0m : Nat), ∀ (b : Nat) (hab : a0 ≤ b) (hbn : b ≤ len), (len - b < n0m) → ∀ (H : Heap) (locs : List Loc) (ls : Array Slot), PP G (rv G h (oI rd 2 (nI b)) w) H → va_D A (rv G h (oI rd 2 (nI b)) w) → va_S A s.heap H locs → lv_has ls 1 [(0, .ref (h 0))] → W p l e (headSpec wsX1_nextSign ({ frames := 0, cells := 0, slots := 0, locals := 0 })).room s m ([.ref (h 0)] : List Value).toArray below meth c H locs 0 0 (MQ below (va_Qi (fun (r : Int32) (v : oS × oS) => (∃ b, v = (oI rd 2 (nI b), w) ∧ a0 ≤ b ∧ b ≤ len ∧ r = -1) ∨ (∃ b, v = (oI rd 2 (nI b), w) ∧ a0 ≤ b ∧ b < len ∧ r = rd.2 0 b)) (fun v t => PP G (rv G h v.1 v.2) t.heap) A) ([.ref (h 0)] : List Value).toArray s 0 0 A) (F0 m 0 ls []) := by
    intro n0m
    induction n0m with
    | zero => intro b hab hbn hmu H locs ls hP hD hS hl; exact absurd hmu (Nat.not_lt_zero _)
    | succ n0m ih0 =>
      intro b hab hbn hmu H locs ls hP hD hS hl
      refine lv_aload_n hx hb dX1_nextSign_0 rfl (lv_at hl 0 rfl) ?_
      refine va_get (D := gD G) (ci := 1) (v := .int (nI b)) (C := RX1) (T := TX1) (N := 10) hx hb hts hiX1 hown hK hP 0 rfl rfl 2 (by decide) k19 (fun _ h9 => h9) rfl dX1_nextSign_1 ?_
      refine lv_aload_n hx hb dX1_nextSign_4 rfl (lv_at hl 0 rfl) ?_
      refine va_get (D := gD G) (ci := 1) (v := .int (rd.1 1)) (C := RX1) (T := TX1) (N := 10) hx hb hts hiX1 hown hK hP 0 rfl rfl 1 (by decide) k15 (fun _ h9 => h9) rfl dX1_nextSign_5 ?_
      refine topE hlen ?_
      refine lv_icmp_ge (tgt := 38) hx hb dX1_nextSign_8 (by decide) (fun c8 => ?_) (fun c8 => ?_)
      · skip
        have n8 : len ≤ b := (nI_leI (a := len) (b := b) (by omega) (by omega)).mp c8
        refine lv_aload_n hx hb dX1_nextSign_38 rfl (lv_at hl 0 rfl) ?_
        refine va_get (D := gD G) (ci := 1) (v := .int (nI b)) (C := RX1) (T := TX1) (N := 10) hx hb hts hiX1 hown hK hP 0 rfl rfl 2 (by decide) k19 (fun _ h9 => h9) rfl dX1_nextSign_39 ?_
        refine lv_aload_n hx hb dX1_nextSign_42 rfl (lv_at hl 0 rfl) ?_
        refine va_get (D := gD G) (ci := 1) (v := .int (rd.1 1)) (C := RX1) (T := TX1) (N := 10) hx hb hts hiX1 hown hK hP 0 rfl rfl 1 (by decide) k15 (fun _ h9 => h9) rfl dX1_nextSign_43 ?_
        refine topE hlen ?_
        refine lv_icmp_ge (tgt := 68) hx hb dX1_nextSign_46 (by decide) (fun c46 => ?_) (fun c46 => ?_)
        · skip
          have n46 : len ≤ b := (nI_leI (a := len) (b := b) (by omega) (by omega)).mp c46
          refine lv_iconst (v := (-1 : Int32)) hx hb dX1_nextSign_68 (by decide) ?_
          exact W.iret (v := (-1 : Int32)) hx hb hr (fun t ht hW => ⟨⟨(-1 : Int32), (oI rd 2 (nI b), w), rfl, Or.inl ⟨b, rfl, hab, hbn, rfl⟩, show PP G (rv G h (oI rd 2 (nI b)) w) t.heap by rw [ht]; exact hP⟩, hS.F ht⟩) hS.2.2 dX1_nextSign_69
        · skip
          have n46 : ¬ (len ≤ b) := fun q9 => c46 ((nI_leI (a := len) (b := b) (by omega) (by omega)).mpr q9)
          refine lv_aload_n hx hb dX1_nextSign_49 rfl (lv_at hl 0 rfl) ?_
          refine va_get (D := gD G) (ci := 1) (v := .int (rd.1 4)) (C := RX1) (T := TX1) (N := 10) hx hb hts hiX1 hown hK hP 0 rfl rfl 4 (by decide) k25 (fun _ h9 => h9) rfl dX1_nextSign_50 ?_
          refine lv_if_ne (tgt := 68) hx hb dX1_nextSign_53 (by decide) (fun c53 => ?_) (fun c53 => ?_)
          · skip
            refine lv_iconst (v := (-1 : Int32)) hx hb dX1_nextSign_68 (by decide) ?_
            exact W.iret (v := (-1 : Int32)) hx hb hr (fun t ht hW => ⟨⟨(-1 : Int32), (oI rd 2 (nI b), w), rfl, Or.inl ⟨b, rfl, hab, hbn, rfl⟩, show PP G (rv G h (oI rd 2 (nI b)) w) t.heap by rw [ht]; exact hP⟩, hS.F ht⟩) hS.2.2 dX1_nextSign_69
          · skip
            refine lv_aload_n hx hb dX1_nextSign_56 rfl (lv_at hl 0 rfl) ?_
            refine va_get (D := gD G) (ci := 1) (v := .ref (h 1)) (C := RX1) (T := TX1) (N := 10) hx hb hts hiX1 hown hK hP 0 rfl rfl 0 (by decide) k9 (fun _ h9 => h9) rfl dX1_nextSign_57 ?_
            refine lv_aload_n hx hb dX1_nextSign_60 rfl (lv_at hl 0 rfl) ?_
            refine va_get (D := gD G) (ci := 1) (v := .int (nI b)) (C := RX1) (T := TX1) (N := 10) hx hb hts hiX1 hown hK hP 0 rfl rfl 2 (by decide) k19 (fun _ h9 => h9) rfl dX1_nextSign_61 ?_
            refine ialdN (f := rd.2 0) (n := 240) (k := b) hx hb hK hP 1 rfl rfl (by omega) dX1_nextSign_64 ?_
            refine lv_goto (tgt := 69) hx hb dX1_nextSign_65 (by decide) ?_
            exact W.iret (v := (rd.2 0) b) hx hb hr (fun t ht hW => ⟨⟨(rd.2 0) b, (oI rd 2 (nI b), w), rfl, Or.inr ⟨b, rfl, hab, by omega, rfl⟩, show PP G (rv G h (oI rd 2 (nI b)) w) t.heap by rw [ht]; exact hP⟩, hS.F ht⟩) hS.2.2 dX1_nextSign_69
      · skip
        have n8 : ¬ (len ≤ b) := fun q9 => c8 ((nI_leI (a := len) (b := b) (by omega) (by omega)).mpr q9)
        refine lv_aload_n hx hb dX1_nextSign_11 rfl (lv_at hl 0 rfl) ?_
        refine va_get (D := gD G) (ci := 1) (v := .ref (h 1)) (C := RX1) (T := TX1) (N := 10) hx hb hts hiX1 hown hK hP 0 rfl rfl 0 (by decide) k9 (fun _ h9 => h9) rfl dX1_nextSign_12 ?_
        refine lv_aload_n hx hb dX1_nextSign_15 rfl (lv_at hl 0 rfl) ?_
        refine va_get (D := gD G) (ci := 1) (v := .int (nI b)) (C := RX1) (T := TX1) (N := 10) hx hb hts hiX1 hown hK hP 0 rfl rfl 2 (by decide) k19 (fun _ h9 => h9) rfl dX1_nextSign_16 ?_
        refine ialdN (f := rd.2 0) (n := 240) (k := b) hx hb hK hP 1 rfl rfl (by omega) dX1_nextSign_19 ?_
        refine lv_bipush (v := nI 32) hx hb dX1_nextSign_20 (by decide) ?_
        refine lv_icmp_ne (tgt := 38) hx hb dX1_nextSign_22 (by decide) (fun c22 => ?_) (fun c22 => ?_)
        · skip
          refine lv_aload_n hx hb dX1_nextSign_38 rfl (lv_at hl 0 rfl) ?_
          refine va_get (D := gD G) (ci := 1) (v := .int (nI b)) (C := RX1) (T := TX1) (N := 10) hx hb hts hiX1 hown hK hP 0 rfl rfl 2 (by decide) k19 (fun _ h9 => h9) rfl dX1_nextSign_39 ?_
          refine lv_aload_n hx hb dX1_nextSign_42 rfl (lv_at hl 0 rfl) ?_
          refine va_get (D := gD G) (ci := 1) (v := .int (rd.1 1)) (C := RX1) (T := TX1) (N := 10) hx hb hts hiX1 hown hK hP 0 rfl rfl 1 (by decide) k15 (fun _ h9 => h9) rfl dX1_nextSign_43 ?_
          refine topE hlen ?_
          refine lv_icmp_ge (tgt := 68) hx hb dX1_nextSign_46 (by decide) (fun c46 => ?_) (fun c46 => ?_)
          · skip
            have n46 : len ≤ b := (nI_leI (a := len) (b := b) (by omega) (by omega)).mp c46
            refine lv_iconst (v := (-1 : Int32)) hx hb dX1_nextSign_68 (by decide) ?_
            exact W.iret (v := (-1 : Int32)) hx hb hr (fun t ht hW => ⟨⟨(-1 : Int32), (oI rd 2 (nI b), w), rfl, Or.inl ⟨b, rfl, hab, hbn, rfl⟩, show PP G (rv G h (oI rd 2 (nI b)) w) t.heap by rw [ht]; exact hP⟩, hS.F ht⟩) hS.2.2 dX1_nextSign_69
          · skip
            have n46 : ¬ (len ≤ b) := fun q9 => c46 ((nI_leI (a := len) (b := b) (by omega) (by omega)).mpr q9)
            refine lv_aload_n hx hb dX1_nextSign_49 rfl (lv_at hl 0 rfl) ?_
            refine va_get (D := gD G) (ci := 1) (v := .int (rd.1 4)) (C := RX1) (T := TX1) (N := 10) hx hb hts hiX1 hown hK hP 0 rfl rfl 4 (by decide) k25 (fun _ h9 => h9) rfl dX1_nextSign_50 ?_
            refine lv_if_ne (tgt := 68) hx hb dX1_nextSign_53 (by decide) (fun c53 => ?_) (fun c53 => ?_)
            · skip
              refine lv_iconst (v := (-1 : Int32)) hx hb dX1_nextSign_68 (by decide) ?_
              exact W.iret (v := (-1 : Int32)) hx hb hr (fun t ht hW => ⟨⟨(-1 : Int32), (oI rd 2 (nI b), w), rfl, Or.inl ⟨b, rfl, hab, hbn, rfl⟩, show PP G (rv G h (oI rd 2 (nI b)) w) t.heap by rw [ht]; exact hP⟩, hS.F ht⟩) hS.2.2 dX1_nextSign_69
            · skip
              refine lv_aload_n hx hb dX1_nextSign_56 rfl (lv_at hl 0 rfl) ?_
              refine va_get (D := gD G) (ci := 1) (v := .ref (h 1)) (C := RX1) (T := TX1) (N := 10) hx hb hts hiX1 hown hK hP 0 rfl rfl 0 (by decide) k9 (fun _ h9 => h9) rfl dX1_nextSign_57 ?_
              refine lv_aload_n hx hb dX1_nextSign_60 rfl (lv_at hl 0 rfl) ?_
              refine va_get (D := gD G) (ci := 1) (v := .int (nI b)) (C := RX1) (T := TX1) (N := 10) hx hb hts hiX1 hown hK hP 0 rfl rfl 2 (by decide) k19 (fun _ h9 => h9) rfl dX1_nextSign_61 ?_
              refine ialdN (f := rd.2 0) (n := 240) (k := b) hx hb hK hP 1 rfl rfl (by omega) dX1_nextSign_64 ?_
              refine lv_goto (tgt := 69) hx hb dX1_nextSign_65 (by decide) ?_
              exact W.iret (v := (rd.2 0) b) hx hb hr (fun t ht hW => ⟨⟨(rd.2 0) b, (oI rd 2 (nI b), w), rfl, Or.inr ⟨b, rfl, hab, by omega, rfl⟩, show PP G (rv G h (oI rd 2 (nI b)) w) t.heap by rw [ht]; exact hP⟩, hS.F ht⟩) hS.2.2 dX1_nextSign_69
        · skip
          refine lv_aload_n hx hb dX1_nextSign_25 rfl (lv_at hl 0 rfl) ?_
          refine lv_dup hx hb dX1_nextSign_26 rfl ?_
          refine va_get (D := gD G) (ci := 1) (v := .int (nI b)) (C := RX1) (T := TX1) (N := 10) hx hb hts hiX1 hown hK hP 0 rfl rfl 2 (by decide) k19 (fun _ h9 => h9) rfl dX1_nextSign_27 ?_
          refine lv_iconst (v := nI 1) hx hb dX1_nextSign_30 (by decide) ?_
          refine lv_iadd hx hb dX1_nextSign_31 ?_
          refine topE (y := nI (b + 1)) (nI_add b 1) ?_
          refine va_put (D := gD G) (ci := 1) (v := .int (nI (b + 1))) (ty := .int) (C := RX1) (T := TX1) (N := 10) hx hb hts hiX1 tyX1 tyX1_ok nmX1 hown hK hP hD hS 0 rfl rfl 2 (by decide) k19 (fun _ h9 => h9) rfl (by decide +kernel) (rfl) (rfl) (Nat.le_of_ble_eq_true rfl) dX1_nextSign_32 (fun H locs hP hD hS => ?_)
          have hP : PP G (rv G h (oI (oI rd 2 (nI b)) 2 (nI (b + 1))) w) H := hP
          have hD : va_D A (rv G h (oI (oI rd 2 (nI b)) 2 (nI (b + 1))) w) := hD
          refine lv_goto (tgt := 0) hx hb dX1_nextSign_35 (by decide) ?_
          exact ih0 (b + 1) (by first | assumption | omega) (by first | assumption | omega) (by omega) _ _ ls hP hD hS (lv_sub hl [0] rfl)
  exact LP0 (len - a0 + 1) a0 (by first | assumption | omega) (by first | assumption | omega) (Nat.lt_succ_self _) _ _ ls hP hD hS (lv_sub hl [0] rfl)
set_option maxHeartbeats 1000000 in
set_option maxRecDepth 100000 in
theorem mt_X1_expect (l : Launch) (G : gG) (h : Nat → Nat) (sz : Nat) (rd : oS) (w : oS) (len : Nat) (a0 : Nat) (x : Int32) (hlen : rd.1 1 = nI len) (ha0 : rd.1 2 = nI a0) (hl240 : len ≤ 240) (hAn : a0 ≤ len) (hxm : ¬ x = -1) : Met l yX1_expect wsX1_expect ({ frames := 1, cells := 0, slots := 0, locals := 22 }) (preW G (rv G h rd w) sz [.ref (h 0), .int x]) (va_Qv (fun (v : oS × oS) => ∃ q b, v = (q, w) ∧ rel [2, 4, 5] [] rd q ∧ q.1 2 = nI b ∧ b ≤ len) (fun v t => PP G (rv G h v.1 v.2) t.heap) (va_A (rv G h rd w) sz)) 0 0 (va_A (rv G h rd w) sz) := by
  refine Met.ofW (cc := cX1_expect) (maxL := 2) (ret := none) (by decide) rfl ?_
  intro p e s m args below meth c s₁ B hml hv
  obtain ⟨ha, hsz, hP, hK, hN, hD0⟩ := hv
  subst ha
  have hx := B.exec
  have hb := B.bytes
  have hr := B.returns
  have hts := atoms_spec (ws := wsX1_expect) B.pre
  have hown : s.vm.findClass RX1 = some m.cls := findClass_of_methodNamed B.named
  have hlocks := B.notSynchronized
  subst hsz
  have hD := hD0.self (sz := s.heap.size)
  generalize hAe : va_A (rv G h rd w) s.heap.size = A at hD ⊢
  have hA : ∀ q : Nat, s.heap.size ≤ q → A q := fun q h => by rw [← hAe]; exact Or.inr h
  clear hAe hD0
  have hS : va_S A s.heap s.heap [] := va_S.rf
  have hiX1 : ∀ w ∈ wsX10, w ∈ wsX1_expect := by decide +kernel
  have k19 := hts (.fieldLink RX1 19 "WovenHistory$Reader" "at" "I") (List.mem_of_getElem? (i := 1) rfl)
  have hl := lv_entry ([.ref (h 0), .int x]) (n := 2) (Nat.le_of_ble_eq_true rfl)
  rw [lg_entry_eq]
  generalize (lg_sl ([.ref (h 0), .int x]) ++ List.replicate (2 - (lg_sl ([.ref (h 0), .int x])).length) Slot.unset).toArray = ls at hl ⊢
  have hl : lv_has ls 2 [(0, .ref (h 0)), (1, .int x)] := hl
  refine lv_aload_n hx hb dX1_expect_0 rfl (lv_at hl 0 rfl) ?_
  refine cXi (As := []) (rest := []) (S := oS × oS) (wa := rv G h rd w) (w1 := fun v => rv G h v.1 v.2) ⟨hx, hb, hml, hown, hts⟩ (mt_X1_nextSign l G h _ rd w len a0 (hlen) (ha0) (by first | assumption | omega) (by first | assumption | omega)) (cwV 0 hts gX1_expect_X1_nextSign rfl rfl rfl (by decide +kernel) ⟨Nat.le_of_ble_eq_true rfl, Nat.le_of_ble_eq_true rfl⟩) hK hN hP hD hS hA (fun _ => rfl) 0 1 rfl rfl rfl hl.1 rfl (Nat.le_of_ble_eq_true rfl) ⟨Nat.zero_le _, Nat.zero_le _⟩ dX1_expect_1 (fun r1 u1 H locs hw1 hP hD hS => ?_)
  rcases hw1 with ⟨b1, rfl, hab1, hbn1, rfl⟩ | ⟨b1, rfl, hab1, hbn1, rfl⟩
  · skip
    have hP : PP G (rv G h (oI rd 2 (nI b1)) w) H := hP
    have hD : va_D A (rv G h (oI rd 2 (nI b1)) w) := hD
    refine lv_iload_n hx hb dX1_expect_4 rfl (lv_at hl 1 rfl) ?_
    refine lv_icmp_ne (tgt := 21) hx hb dX1_expect_5 (by decide) (fun c5 => ?_) (fun c5 => ?_)
    · skip
      refine lv_aload_n hx hb dX1_expect_21 rfl (lv_at hl 0 rfl) ?_
      refine lv_iconst (v := nI 1) hx hb dX1_expect_22 (by decide) ?_
      refine lv_aload_n hx hb dX1_expect_23 rfl (lv_at hl 0 rfl) ?_
      refine va_get (D := gD G) (ci := 1) (v := .int (nI (b1))) (C := RX1) (T := TX1) (N := 10) hx hb hts hiX1 hown hK hP 0 rfl rfl 2 (by decide) k19 (fun _ h9 => h9) rfl dX1_expect_24 ?_
      refine cXv (As := [.int (nI 1), .int (nI (b1))]) (rest := []) (S := oS × oS) (wa := rv G h (oI rd 2 (nI b1)) w) (w1 := fun v => rv G h v.1 v.2) ⟨hx, hb, hml, hown, hts⟩ (mt_X1_fail l G h _ (oI rd 2 (nI b1)) w (nI 1) (nI (b1))) (cwV 2 hts gX1_expect_X1_fail rfl rfl rfl (by decide +kernel) ⟨Nat.le_of_ble_eq_true rfl, Nat.le_of_ble_eq_true rfl⟩) hK hN hP hD hS hA (fun _ => rfl) 0 1 rfl rfl rfl hl.1 rfl (Nat.le_of_ble_eq_true rfl) ⟨Nat.zero_le _, Nat.zero_le _⟩ dX1_expect_27 (fun u27 H locs hw27 hP hD hS => ?_)
      obtain ⟨q27, rfl, hR27⟩ := hw27
      have hP : PP G (rv G h q27 w) H := hP
      have hD : va_D A (rv G h q27 w) := hD
      exact W.vret hx hb hr (fun t ht hW => ⟨⟨(q27, w), rfl, ⟨_, b1, rfl, by repeat (first | exact rel.refl _ | exact rel.mono (by assumption) (by decide) (by decide) | refine rel.I (by decide) ?_ | refine rel.A (by decide) ?_ | refine rel.trans ?_ (rel.mono (by assumption) (by decide) (by decide))), (hR27.1 2 (by decide)).trans rfl, by omega⟩, show PP G (rv G h q27 w) t.heap by rw [ht]; exact hP⟩, hS.F ht⟩) hS.2.2 dX1_expect_30
    · skip
      exact absurd c5.symm hxm
  · skip
    have hP : PP G (rv G h (oI rd 2 (nI b1)) w) H := hP
    have hD : va_D A (rv G h (oI rd 2 (nI b1)) w) := hD
    refine lv_iload_n hx hb dX1_expect_4 rfl (lv_at hl 1 rfl) ?_
    refine lv_icmp_ne (tgt := 21) hx hb dX1_expect_5 (by decide) (fun c5 => ?_) (fun c5 => ?_)
    · skip
      refine lv_aload_n hx hb dX1_expect_21 rfl (lv_at hl 0 rfl) ?_
      refine lv_iconst (v := nI 1) hx hb dX1_expect_22 (by decide) ?_
      refine lv_aload_n hx hb dX1_expect_23 rfl (lv_at hl 0 rfl) ?_
      refine va_get (D := gD G) (ci := 1) (v := .int (nI (b1))) (C := RX1) (T := TX1) (N := 10) hx hb hts hiX1 hown hK hP 0 rfl rfl 2 (by decide) k19 (fun _ h9 => h9) rfl dX1_expect_24 ?_
      refine cXv (As := [.int (nI 1), .int (nI (b1))]) (rest := []) (S := oS × oS) (wa := rv G h (oI rd 2 (nI b1)) w) (w1 := fun v => rv G h v.1 v.2) ⟨hx, hb, hml, hown, hts⟩ (mt_X1_fail l G h _ (oI rd 2 (nI b1)) w (nI 1) (nI (b1))) (cwV 2 hts gX1_expect_X1_fail rfl rfl rfl (by decide +kernel) ⟨Nat.le_of_ble_eq_true rfl, Nat.le_of_ble_eq_true rfl⟩) hK hN hP hD hS hA (fun _ => rfl) 0 1 rfl rfl rfl hl.1 rfl (Nat.le_of_ble_eq_true rfl) ⟨Nat.zero_le _, Nat.zero_le _⟩ dX1_expect_27 (fun u27 H locs hw27 hP hD hS => ?_)
      obtain ⟨q27, rfl, hR27⟩ := hw27
      have hP : PP G (rv G h q27 w) H := hP
      have hD : va_D A (rv G h q27 w) := hD
      exact W.vret hx hb hr (fun t ht hW => ⟨⟨(q27, w), rfl, ⟨_, b1, rfl, by repeat (first | exact rel.refl _ | exact rel.mono (by assumption) (by decide) (by decide) | refine rel.I (by decide) ?_ | refine rel.A (by decide) ?_ | refine rel.trans ?_ (rel.mono (by assumption) (by decide) (by decide))), (hR27.1 2 (by decide)).trans rfl, by omega⟩, show PP G (rv G h q27 w) t.heap by rw [ht]; exact hP⟩, hS.F ht⟩) hS.2.2 dX1_expect_30
    · skip
      refine lv_aload_n hx hb dX1_expect_8 rfl (lv_at hl 0 rfl) ?_
      refine lv_dup hx hb dX1_expect_9 rfl ?_
      refine va_get (D := gD G) (ci := 1) (v := .int (nI (b1))) (C := RX1) (T := TX1) (N := 10) hx hb hts hiX1 hown hK hP 0 rfl rfl 2 (by decide) k19 (fun _ h9 => h9) rfl dX1_expect_10 ?_
      refine lv_iconst (v := nI 1) hx hb dX1_expect_13 (by decide) ?_
      refine lv_iadd hx hb dX1_expect_14 ?_
      refine topE (y := nI (b1 + 1)) (nI_add b1 1) ?_
      refine va_put (D := gD G) (ci := 1) (v := .int (nI (b1 + 1))) (ty := .int) (C := RX1) (T := TX1) (N := 10) hx hb hts hiX1 tyX1 tyX1_ok nmX1 hown hK hP hD hS 0 rfl rfl 2 (by decide) k19 (fun _ h9 => h9) rfl (by decide +kernel) (rfl) (rfl) (Nat.le_of_ble_eq_true rfl) dX1_expect_15 (fun H locs hP hD hS => ?_)
      have hP : PP G (rv G h (oI (oI rd 2 (nI b1)) 2 (nI (b1 + 1))) w) H := hP
      have hD : va_D A (rv G h (oI (oI rd 2 (nI b1)) 2 (nI (b1 + 1))) w) := hD
      refine lv_goto (tgt := 30) hx hb dX1_expect_18 (by decide) ?_
      exact W.vret hx hb hr (fun t ht hW => ⟨⟨(oI (oI rd 2 (nI b1)) 2 (nI (b1 + 1)), w), rfl, ⟨_, b1 + 1, rfl, by repeat (first | exact rel.refl _ | exact rel.mono (by assumption) (by decide) (by decide) | refine rel.I (by decide) ?_ | refine rel.A (by decide) ?_ | refine rel.trans ?_ (rel.mono (by assumption) (by decide) (by decide))), rfl, by omega⟩, show PP G (rv G h (oI (oI rd 2 (nI b1)) 2 (nI (b1 + 1))) w) t.heap by rw [ht]; exact hP⟩, hS.F ht⟩) hS.2.2 dX1_expect_30
set_option maxHeartbeats 1000000 in
set_option maxRecDepth 100000 in
theorem mt_X1_isFigure (l : Launch) (x : Int32) : Met l yX1_isFigure wsX1_isFigure ({ frames := 0, cells := 0, slots := 0, locals := 0 }) (preS [.int x]) (vp_Si (fun r : Int32 => r = 1 ∨ r = 0)) 0 0 (fun _ => False) := by
  refine Met.ofW (cc := cX1_isFigure) (maxL := 1) (ret := (some .boolean)) (by decide) rfl ?_
  intro p e s m args below meth c s₁ B hml hv
  obtain ⟨ha, -⟩ := hv
  subst ha
  have hx := B.exec
  have hb := B.bytes
  have hr := B.returns
  have hts := atoms_spec (ws := wsX1_isFigure) B.pre
  have hown : s.vm.findClass RX1 = some m.cls := findClass_of_methodNamed B.named
  have hlocks := B.notSynchronized
  have hl := lv_entry ([.int x]) (n := 1) (Nat.le_of_ble_eq_true rfl)
  rw [lg_entry_eq]
  generalize (lg_sl ([.int x]) ++ List.replicate (1 - (lg_sl ([.int x])).length) Slot.unset).toArray = ls at hl ⊢
  have hl : lv_has ls 1 [(0, .int x)] := hl
  refine lv_iload_n hx hb dX1_isFigure_0 rfl (lv_at hl 0 rfl) ?_
  refine lv_bipush (v := nI 48) hx hb dX1_isFigure_1 (by decide) ?_
  refine lv_icmp_lt (tgt := 16) hx hb dX1_isFigure_3 (by decide) (fun c3 => ?_) (fun c3 => ?_)
  · skip
    refine lv_iconst (v := nI 0) hx hb dX1_isFigure_16 (by decide) ?_
    exact W.zret (v := nI 0) hx hb hr (by decide) (fun t ht hW => ⟨nI 0, rfl, by first | exact Or.inl rfl | exact Or.inr rfl, ht⟩) (fun _ h9 => by cases h9) dX1_isFigure_17
  · skip
    refine lv_iload_n hx hb dX1_isFigure_6 rfl (lv_at hl 0 rfl) ?_
    refine lv_bipush (v := nI 57) hx hb dX1_isFigure_7 (by decide) ?_
    refine lv_icmp_gt (tgt := 16) hx hb dX1_isFigure_9 (by decide) (fun c9 => ?_) (fun c9 => ?_)
    · skip
      refine lv_iconst (v := nI 0) hx hb dX1_isFigure_16 (by decide) ?_
      exact W.zret (v := nI 0) hx hb hr (by decide) (fun t ht hW => ⟨nI 0, rfl, by first | exact Or.inl rfl | exact Or.inr rfl, ht⟩) (fun _ h9 => by cases h9) dX1_isFigure_17
    · skip
      refine lv_iconst (v := nI 1) hx hb dX1_isFigure_12 (by decide) ?_
      refine lv_goto (tgt := 17) hx hb dX1_isFigure_13 (by decide) ?_
      exact W.zret (v := nI 1) hx hb hr (by decide) (fun t ht hW => ⟨nI 1, rfl, by first | exact Or.inl rfl | exact Or.inr rfl, ht⟩) (fun _ h9 => by cases h9) dX1_isFigure_17
set_option maxHeartbeats 1000000 in
set_option maxRecDepth 100000 in
theorem mt_X1_readNumber (l : Launch) (G : gG) (h : Nat → Nat) (sz : Nat) (rd : oS) (w : oS) (len : Nat) (a0 : Nat) (hlen : rd.1 1 = nI len) (ha0 : rd.1 2 = nI a0) (hl240 : len ≤ 240) (hAn : a0 ≤ len) : Met l yX1_readNumber wsX1_readNumber ({ frames := 1, cells := 0, slots := 0, locals := 22 }) (preW G (rv G h rd w) sz [.ref (h 0)]) (va_Qi (fun (r : Int32) (v : oS × oS) => ∃ q b, v = (q, w) ∧ rel [2, 3, 4, 5] [] rd q ∧ q.1 2 = nI b ∧ b ≤ len) (fun v t => PP G (rv G h v.1 v.2) t.heap) (va_A (rv G h rd w) sz)) 0 0 (va_A (rv G h rd w) sz) := by
  refine Met.ofW (cc := cX1_readNumber) (maxL := 2) (ret := (some .int)) (by decide) rfl ?_
  intro p e s m args below meth c s₁ B hml hv
  obtain ⟨ha, hsz, hP, hK, hN, hD0⟩ := hv
  subst ha
  have hx := B.exec
  have hb := B.bytes
  have hr := B.returns
  have hts := atoms_spec (ws := wsX1_readNumber) B.pre
  have hown : s.vm.findClass RX1 = some m.cls := findClass_of_methodNamed B.named
  have hlocks := B.notSynchronized
  subst hsz
  have hD := hD0.self (sz := s.heap.size)
  generalize hAe : va_A (rv G h rd w) s.heap.size = A at hD ⊢
  have hA : ∀ q : Nat, s.heap.size ≤ q → A q := fun q h => by rw [← hAe]; exact Or.inr h
  clear hAe hD0
  have hS : va_S A s.heap s.heap [] := va_S.rf
  have hiX1 : ∀ w ∈ wsX10, w ∈ wsX1_readNumber := by decide +kernel
  have k19 := hts (.fieldLink RX1 19 "WovenHistory$Reader" "at" "I") (List.mem_of_getElem? (i := 1) rfl)
  have k22 := hts (.fieldLink RX1 22 "WovenHistory$Reader" "numberAt" "I") (List.mem_of_getElem? (i := 2) rfl)
  have k15 := hts (.fieldLink RX1 15 "WovenHistory$Reader" "length" "I") (List.mem_of_getElem? (i := 3) rfl)
  have k9 := hts (.fieldLink RX1 9 "WovenHistory$Reader" "letters" "[I") (List.mem_of_getElem? (i := 4) rfl)
  have hl := lv_entry ([.ref (h 0)]) (n := 2) (Nat.le_of_ble_eq_true rfl)
  rw [lg_entry_eq]
  generalize (lg_sl ([.ref (h 0)]) ++ List.replicate (2 - (lg_sl ([.ref (h 0)])).length) Slot.unset).toArray = ls at hl ⊢
  have hl : lv_has ls 2 [(0, .ref (h 0))] := hl
  refine lv_aload_n hx hb dX1_readNumber_0 rfl (lv_at hl 0 rfl) ?_
  refine cXi (As := []) (rest := []) (S := oS × oS) (wa := rv G h rd w) (w1 := fun v => rv G h v.1 v.2) ⟨hx, hb, hml, hown, hts⟩ (mt_X1_nextSign l G h _ rd w len a0 (hlen) (ha0) (by first | assumption | omega) (by first | assumption | omega)) (cwV 0 hts gX1_readNumber_X1_nextSign rfl rfl rfl (by decide +kernel) ⟨Nat.le_of_ble_eq_true rfl, Nat.le_of_ble_eq_true rfl⟩) hK hN hP hD hS hA (fun _ => rfl) 0 1 rfl rfl rfl hl.1 rfl (Nat.le_of_ble_eq_true rfl) ⟨Nat.zero_le _, Nat.zero_le _⟩ dX1_readNumber_1 (fun r1 u1 H locs hw1 hP hD hS => ?_)
  rcases hw1 with ⟨b1, rfl, hab1, hbn1, rfl⟩ | ⟨b1, rfl, hab1, hbn1, rfl⟩
  · skip
    have hP : PP G (rv G h (oI rd 2 (nI b1)) w) H := hP
    have hD : va_D A (rv G h (oI rd 2 (nI b1)) w) := hD
    refine lv_pop hx hb dX1_readNumber_4 rfl ?_
    refine lv_aload_n hx hb dX1_readNumber_5 rfl (lv_at hl 0 rfl) ?_
    refine lv_aload_n hx hb dX1_readNumber_6 rfl (lv_at hl 0 rfl) ?_
    refine va_get (D := gD G) (ci := 1) (v := .int (nI (b1))) (C := RX1) (T := TX1) (N := 10) hx hb hts hiX1 hown hK hP 0 rfl rfl 2 (by decide) k19 (fun _ h9 => h9) rfl dX1_readNumber_7 ?_
    refine va_put (D := gD G) (ci := 1) (v := .int (nI (b1))) (ty := .int) (C := RX1) (T := TX1) (N := 10) hx hb hts hiX1 tyX1 tyX1_ok nmX1 hown hK hP hD hS 0 rfl rfl 3 (by decide) k22 (fun _ h9 => h9) rfl (by decide +kernel) (rfl) (rfl) (Nat.le_of_ble_eq_true rfl) dX1_readNumber_10 (fun H locs hP hD hS => ?_)
    have hP : PP G (rv G h (oI (oI rd 2 (nI b1)) 3 (nI (b1))) w) H := hP
    have hD : va_D A (rv G h (oI (oI rd 2 (nI b1)) 3 (nI (b1))) w) := hD
    refine lv_iconst (v := nI 0) hx hb dX1_readNumber_13 (by decide) ?_
    refine lv_istore_n (lv' := [(1, .int (nI 0)), (0, .ref (h 0))]) hx hb dX1_readNumber_14 rfl hl (by decide) rfl (fun ls hl => ?_)
    have LP15 : ∀ (n15m : Nat), ∀ (b : Nat) (x : Int32) (hbb : b1 ≤ b) (hbl : b ≤ len), (len - b < n15m) → ∀ (H : Heap) (locs : List Loc) (ls : Array Slot), PP G (rv G h (oI (oI rd 3 (nI b1)) 2 (nI b)) w) H → va_D A (rv G h (oI (oI rd 3 (nI b1)) 2 (nI b)) w) → va_S A s.heap H locs → lv_has ls 2 [(0, .ref (h 0)), (1, .int x)] → W p l e (headSpec wsX1_readNumber ({ frames := 1, cells := 0, slots := 0, locals := 22 })).room s m ([.ref (h 0)] : List Value).toArray below meth c H locs 0 0 (MQ below (va_Qi (fun (r : Int32) (v : oS × oS) => ∃ q b, v = (q, w) ∧ rel [2, 3, 4, 5] [] rd q ∧ q.1 2 = nI b ∧ b ≤ len) (fun v t => PP G (rv G h v.1 v.2) t.heap) A) ([.ref (h 0)] : List Value).toArray s 0 0 A) (F0 m 15 ls []) := by
      intro n15m
      induction n15m with
      | zero => intro b x hbb hbl hmu H locs ls hP hD hS hl; exact absurd hmu (Nat.not_lt_zero _)
      | succ n15m ih15 =>
        intro b x hbb hbl hmu H locs ls hP hD hS hl
        refine lv_aload_n hx hb dX1_readNumber_15 rfl (lv_at hl 0 rfl) ?_
        refine va_get (D := gD G) (ci := 1) (v := .int (nI b)) (C := RX1) (T := TX1) (N := 10) hx hb hts hiX1 hown hK hP 0 rfl rfl 2 (by decide) k19 (fun _ h9 => h9) rfl dX1_readNumber_16 ?_
        refine lv_aload_n hx hb dX1_readNumber_19 rfl (lv_at hl 0 rfl) ?_
        refine va_get (D := gD G) (ci := 1) (v := .int (rd.1 1)) (C := RX1) (T := TX1) (N := 10) hx hb hts hiX1 hown hK hP 0 rfl rfl 1 (by decide) k15 (fun _ h9 => h9) rfl dX1_readNumber_20 ?_
        refine topE hlen ?_
        refine lv_icmp_ge (tgt := 89) hx hb dX1_readNumber_23 (by decide) (fun c23 => ?_) (fun c23 => ?_)
        · skip
          have n23 : len ≤ b := (nI_leI (a := len) (b := b) (by omega) (by omega)).mp c23
          refine lv_aload_n hx hb dX1_readNumber_89 rfl (lv_at hl 0 rfl) ?_
          refine va_get (D := gD G) (ci := 1) (v := .int (nI b)) (C := RX1) (T := TX1) (N := 10) hx hb hts hiX1 hown hK hP 0 rfl rfl 2 (by decide) k19 (fun _ h9 => h9) rfl dX1_readNumber_90 ?_
          refine lv_aload_n hx hb dX1_readNumber_93 rfl (lv_at hl 0 rfl) ?_
          refine va_get (D := gD G) (ci := 1) (v := .int (nI b1)) (C := RX1) (T := TX1) (N := 10) hx hb hts hiX1 hown hK hP 0 rfl rfl 3 (by decide) k22 (fun _ h9 => h9) rfl dX1_readNumber_94 ?_
          refine lv_icmp_ne (tgt := 112) hx hb dX1_readNumber_97 (by decide) (fun c97 => ?_) (fun c97 => ?_)
          · skip
            have n97 : ¬ (b = b1) := fun q9 => c97 ((nI_eq (a := b) (b := b1) (by omega) (by omega)).mpr q9)
            refine lv_aload_n hx hb dX1_readNumber_112 rfl (lv_at hl 0 rfl) ?_
            refine va_get (D := gD G) (ci := 1) (v := .int (nI b)) (C := RX1) (T := TX1) (N := 10) hx hb hts hiX1 hown hK hP 0 rfl rfl 2 (by decide) k19 (fun _ h9 => h9) rfl dX1_readNumber_113 ?_
            refine lv_aload_n hx hb dX1_readNumber_116 rfl (lv_at hl 0 rfl) ?_
            refine va_get (D := gD G) (ci := 1) (v := .int (nI b1)) (C := RX1) (T := TX1) (N := 10) hx hb hts hiX1 hown hK hP 0 rfl rfl 3 (by decide) k22 (fun _ h9 => h9) rfl dX1_readNumber_117 ?_
            refine lv_isub hx hb dX1_readNumber_120 ?_
            refine topE (y := nI (b - b1)) (pk_sub (by omega)) ?_
            refine lv_iconst (v := nI 2) hx hb dX1_readNumber_121 (by decide) ?_
            refine lv_icmp_le (tgt := 134) hx hb dX1_readNumber_122 (by decide) (fun c122 => ?_) (fun c122 => ?_)
            · skip
              have n122 : (b - b1) ≤ 2 := (nI_leI (a := b - b1) (b := 2) (by omega) (by omega)).mp c122
              refine lv_iload_n hx hb dX1_readNumber_134 rfl (lv_at hl 1 rfl) ?_
              exact W.iret (v := x) hx hb hr (fun t ht hW => ⟨⟨x, (oI (oI rd 3 (nI b1)) 2 (nI b), w), rfl, ⟨_, b, rfl, by repeat (first | exact rel.refl _ | exact rel.mono (by assumption) (by decide) (by decide) | refine rel.I (by decide) ?_ | refine rel.A (by decide) ?_ | refine rel.trans ?_ (rel.mono (by assumption) (by decide) (by decide))), rfl, by omega⟩, show PP G (rv G h (oI (oI rd 3 (nI b1)) 2 (nI b)) w) t.heap by rw [ht]; exact hP⟩, hS.F ht⟩) hS.2.2 dX1_readNumber_135
            · skip
              have n122 : ¬ ((b - b1) ≤ 2) := fun q9 => c122 ((nI_leI (a := b - b1) (b := 2) (by omega) (by omega)).mpr q9)
              refine lv_aload_n hx hb dX1_readNumber_125 rfl (lv_at hl 0 rfl) ?_
              refine lv_iconst (v := nI 2) hx hb dX1_readNumber_126 (by decide) ?_
              refine lv_aload_n hx hb dX1_readNumber_127 rfl (lv_at hl 0 rfl) ?_
              refine va_get (D := gD G) (ci := 1) (v := .int (nI b1)) (C := RX1) (T := TX1) (N := 10) hx hb hts hiX1 hown hK hP 0 rfl rfl 3 (by decide) k22 (fun _ h9 => h9) rfl dX1_readNumber_128 ?_
              refine cXv (As := [.int (nI 2), .int (nI b1)]) (rest := []) (S := oS × oS) (wa := rv G h (oI (oI rd 3 (nI b1)) 2 (nI b)) w) (w1 := fun v => rv G h v.1 v.2) ⟨hx, hb, hml, hown, hts⟩ (mt_X1_fail l G h _ (oI (oI rd 3 (nI b1)) 2 (nI b)) w (nI 2) (nI b1)) (cwV 2 hts gX1_readNumber_X1_fail rfl rfl rfl (by decide +kernel) ⟨Nat.le_of_ble_eq_true rfl, Nat.le_of_ble_eq_true rfl⟩) hK hN hP hD hS hA (fun _ => rfl) 0 1 rfl rfl rfl hl.1 rfl (Nat.le_of_ble_eq_true rfl) ⟨Nat.zero_le _, Nat.zero_le _⟩ dX1_readNumber_131 (fun u131 H locs hw131 hP hD hS => ?_)
              obtain ⟨q131, rfl, hR131⟩ := hw131
              have hP : PP G (rv G h q131 w) H := hP
              have hD : va_D A (rv G h q131 w) := hD
              refine lv_iload_n hx hb dX1_readNumber_134 rfl (lv_at hl 1 rfl) ?_
              exact W.iret (v := x) hx hb hr (fun t ht hW => ⟨⟨x, (q131, w), rfl, ⟨_, b, rfl, by repeat (first | exact rel.refl _ | exact rel.mono (by assumption) (by decide) (by decide) | refine rel.I (by decide) ?_ | refine rel.A (by decide) ?_ | refine rel.trans ?_ (rel.mono (by assumption) (by decide) (by decide))), (hR131.1 2 (by decide)).trans rfl, by omega⟩, show PP G (rv G h q131 w) t.heap by rw [ht]; exact hP⟩, hS.F ht⟩) hS.2.2 dX1_readNumber_135
          · skip
            have n97 : b = b1 := (nI_eq (a := b) (b := b1) (by omega) (by omega)).mp c97
            refine lv_aload_n hx hb dX1_readNumber_100 rfl (lv_at hl 0 rfl) ?_
            refine lv_iconst (v := nI 1) hx hb dX1_readNumber_101 (by decide) ?_
            refine lv_aload_n hx hb dX1_readNumber_102 rfl (lv_at hl 0 rfl) ?_
            refine va_get (D := gD G) (ci := 1) (v := .int (nI b)) (C := RX1) (T := TX1) (N := 10) hx hb hts hiX1 hown hK hP 0 rfl rfl 2 (by decide) k19 (fun _ h9 => h9) rfl dX1_readNumber_103 ?_
            refine cXv (As := [.int (nI 1), .int (nI b)]) (rest := []) (S := oS × oS) (wa := rv G h (oI (oI rd 3 (nI b1)) 2 (nI b)) w) (w1 := fun v => rv G h v.1 v.2) ⟨hx, hb, hml, hown, hts⟩ (mt_X1_fail l G h _ (oI (oI rd 3 (nI b1)) 2 (nI b)) w (nI 1) (nI b)) (cwV 2 hts gX1_readNumber_X1_fail rfl rfl rfl (by decide +kernel) ⟨Nat.le_of_ble_eq_true rfl, Nat.le_of_ble_eq_true rfl⟩) hK hN hP hD hS hA (fun _ => rfl) 0 1 rfl rfl rfl hl.1 rfl (Nat.le_of_ble_eq_true rfl) ⟨Nat.zero_le _, Nat.zero_le _⟩ dX1_readNumber_106 (fun u106 H locs hw106 hP hD hS => ?_)
            obtain ⟨q106, rfl, hR106⟩ := hw106
            have hP : PP G (rv G h q106 w) H := hP
            have hD : va_D A (rv G h q106 w) := hD
            refine lv_goto (tgt := 134) hx hb dX1_readNumber_109 (by decide) ?_
            refine lv_iload_n hx hb dX1_readNumber_134 rfl (lv_at hl 1 rfl) ?_
            exact W.iret (v := x) hx hb hr (fun t ht hW => ⟨⟨x, (q106, w), rfl, ⟨_, b, rfl, by repeat (first | exact rel.refl _ | exact rel.mono (by assumption) (by decide) (by decide) | refine rel.I (by decide) ?_ | refine rel.A (by decide) ?_ | refine rel.trans ?_ (rel.mono (by assumption) (by decide) (by decide))), (hR106.1 2 (by decide)).trans rfl, by omega⟩, show PP G (rv G h q106 w) t.heap by rw [ht]; exact hP⟩, hS.F ht⟩) hS.2.2 dX1_readNumber_135
        · skip
          have n23 : ¬ (len ≤ b) := fun q9 => c23 ((nI_leI (a := len) (b := b) (by omega) (by omega)).mpr q9)
          refine lv_aload_n hx hb dX1_readNumber_26 rfl (lv_at hl 0 rfl) ?_
          refine va_get (D := gD G) (ci := 1) (v := .ref (h 1)) (C := RX1) (T := TX1) (N := 10) hx hb hts hiX1 hown hK hP 0 rfl rfl 0 (by decide) k9 (fun _ h9 => h9) rfl dX1_readNumber_27 ?_
          refine lv_aload_n hx hb dX1_readNumber_30 rfl (lv_at hl 0 rfl) ?_
          refine va_get (D := gD G) (ci := 1) (v := .int (nI b)) (C := RX1) (T := TX1) (N := 10) hx hb hts hiX1 hown hK hP 0 rfl rfl 2 (by decide) k19 (fun _ h9 => h9) rfl dX1_readNumber_31 ?_
          refine ialdN (f := rd.2 0) (n := 240) (k := b) hx hb hK hP 1 rfl rfl (by omega) dX1_readNumber_34 ?_
          refine cSi (As := [.int ((rd.2 0) b)]) (rest := []) ⟨hx, hb, hml, hown, hts⟩ (mt_X1_isFigure l ((rd.2 0) b)) (va_cwS 1 hts gX1_readNumber_X1_isFigure rfl rfl rfl (by decide +kernel) ⟨Nat.le_of_ble_eq_true rfl, Nat.le_of_ble_eq_true rfl⟩) rfl hl.1 rfl (Nat.le_of_ble_eq_true rfl) ⟨Nat.zero_le _, Nat.zero_le _⟩ dX1_readNumber_35 (fun r35 hw35 => ?_)
          rcases hw35 with rfl | rfl
          · skip
            refine lv_if_eq (tgt := 89) hx hb dX1_readNumber_38 (by decide) (fun c9 => absurd c9 (by decide)) (fun _ => ?_)
            refine lv_aload_n hx hb dX1_readNumber_41 rfl (lv_at hl 0 rfl) ?_
            refine va_get (D := gD G) (ci := 1) (v := .int (nI b)) (C := RX1) (T := TX1) (N := 10) hx hb hts hiX1 hown hK hP 0 rfl rfl 2 (by decide) k19 (fun _ h9 => h9) rfl dX1_readNumber_42 ?_
            refine lv_aload_n hx hb dX1_readNumber_45 rfl (lv_at hl 0 rfl) ?_
            refine va_get (D := gD G) (ci := 1) (v := .int (nI b1)) (C := RX1) (T := TX1) (N := 10) hx hb hts hiX1 hown hK hP 0 rfl rfl 3 (by decide) k22 (fun _ h9 => h9) rfl dX1_readNumber_46 ?_
            refine lv_isub hx hb dX1_readNumber_49 ?_
            refine topE (y := nI (b - b1)) (pk_sub (by omega)) ?_
            refine lv_iconst (v := nI 2) hx hb dX1_readNumber_50 (by decide) ?_
            refine lv_icmp_ge (tgt := 74) hx hb dX1_readNumber_51 (by decide) (fun c51 => ?_) (fun c51 => ?_)
            · skip
              have n51 : 2 ≤ (b - b1) := (nI_leI (a := 2) (b := b - b1) (by omega) (by omega)).mp c51
              refine lv_iload_n hx hb dX1_readNumber_74 rfl (lv_at hl 1 rfl) ?_
              refine lv_istore_n (lv' := [(1, .int x), (0, .ref (h 0))]) hx hb dX1_readNumber_75 rfl hl (by decide) rfl (fun ls hl => ?_)
              refine lv_aload_n hx hb dX1_readNumber_76 rfl (lv_at hl 1 rfl) ?_
              refine lv_dup hx hb dX1_readNumber_77 rfl ?_
              refine va_get (D := gD G) (ci := 1) (v := .int (nI b)) (C := RX1) (T := TX1) (N := 10) hx hb hts hiX1 hown hK hP 0 rfl rfl 2 (by decide) k19 (fun _ h9 => h9) rfl dX1_readNumber_78 ?_
              refine lv_iconst (v := nI 1) hx hb dX1_readNumber_81 (by decide) ?_
              refine lv_iadd hx hb dX1_readNumber_82 ?_
              refine topE (y := nI (b + 1)) (nI_add b 1) ?_
              refine va_put (D := gD G) (ci := 1) (v := .int (nI (b + 1))) (ty := .int) (C := RX1) (T := TX1) (N := 10) hx hb hts hiX1 tyX1 tyX1_ok nmX1 hown hK hP hD hS 0 rfl rfl 2 (by decide) k19 (fun _ h9 => h9) rfl (by decide +kernel) (rfl) (rfl) (Nat.le_of_ble_eq_true rfl) dX1_readNumber_83 (fun H locs hP hD hS => ?_)
              have hP : PP G (rv G h (oI (oI (oI rd 3 (nI b1)) 2 (nI b)) 2 (nI (b + 1))) w) H := hP
              have hD : va_D A (rv G h (oI (oI (oI rd 3 (nI b1)) 2 (nI b)) 2 (nI (b + 1))) w) := hD
              refine lv_goto (tgt := 15) hx hb dX1_readNumber_86 (by decide) ?_
              exact ih15 (b + 1) x (by first | assumption | omega) (by first | assumption | omega) (by omega) _ _ ls hP hD hS (lv_sub hl [1, 0] rfl)
            · skip
              have n51 : ¬ (2 ≤ (b - b1)) := fun q9 => c51 ((nI_leI (a := 2) (b := b - b1) (by omega) (by omega)).mpr q9)
              refine lv_iload_n hx hb dX1_readNumber_54 rfl (lv_at hl 1 rfl) ?_
              refine lv_bipush (v := nI 10) hx hb dX1_readNumber_55 (by decide) ?_
              refine lv_imul hx hb dX1_readNumber_57 ?_
              refine lv_aload_n hx hb dX1_readNumber_58 rfl (lv_at hl 0 rfl) ?_
              refine va_get (D := gD G) (ci := 1) (v := .ref (h 1)) (C := RX1) (T := TX1) (N := 10) hx hb hts hiX1 hown hK hP 0 rfl rfl 0 (by decide) k9 (fun _ h9 => h9) rfl dX1_readNumber_59 ?_
              refine lv_aload_n hx hb dX1_readNumber_62 rfl (lv_at hl 0 rfl) ?_
              refine va_get (D := gD G) (ci := 1) (v := .int (nI b)) (C := RX1) (T := TX1) (N := 10) hx hb hts hiX1 hown hK hP 0 rfl rfl 2 (by decide) k19 (fun _ h9 => h9) rfl dX1_readNumber_63 ?_
              refine ialdN (f := rd.2 0) (n := 240) (k := b) hx hb hK hP 1 rfl rfl (by omega) dX1_readNumber_66 ?_
              refine lv_iadd hx hb dX1_readNumber_67 ?_
              refine lv_bipush (v := nI 48) hx hb dX1_readNumber_68 (by decide) ?_
              refine lv_isub hx hb dX1_readNumber_70 ?_
              refine lv_goto (tgt := 75) hx hb dX1_readNumber_71 (by decide) ?_
              refine lv_istore_n (lv' := [(1, .int (((x * (nI 10)) + ((rd.2 0) b)) - (nI 48))), (0, .ref (h 0))]) hx hb dX1_readNumber_75 rfl hl (by decide) rfl (fun ls hl => ?_)
              refine lv_aload_n hx hb dX1_readNumber_76 rfl (lv_at hl 1 rfl) ?_
              refine lv_dup hx hb dX1_readNumber_77 rfl ?_
              refine va_get (D := gD G) (ci := 1) (v := .int (nI b)) (C := RX1) (T := TX1) (N := 10) hx hb hts hiX1 hown hK hP 0 rfl rfl 2 (by decide) k19 (fun _ h9 => h9) rfl dX1_readNumber_78 ?_
              refine lv_iconst (v := nI 1) hx hb dX1_readNumber_81 (by decide) ?_
              refine lv_iadd hx hb dX1_readNumber_82 ?_
              refine topE (y := nI (b + 1)) (nI_add b 1) ?_
              refine va_put (D := gD G) (ci := 1) (v := .int (nI (b + 1))) (ty := .int) (C := RX1) (T := TX1) (N := 10) hx hb hts hiX1 tyX1 tyX1_ok nmX1 hown hK hP hD hS 0 rfl rfl 2 (by decide) k19 (fun _ h9 => h9) rfl (by decide +kernel) (rfl) (rfl) (Nat.le_of_ble_eq_true rfl) dX1_readNumber_83 (fun H locs hP hD hS => ?_)
              have hP : PP G (rv G h (oI (oI (oI rd 3 (nI b1)) 2 (nI b)) 2 (nI (b + 1))) w) H := hP
              have hD : va_D A (rv G h (oI (oI (oI rd 3 (nI b1)) 2 (nI b)) 2 (nI (b + 1))) w) := hD
              refine lv_goto (tgt := 15) hx hb dX1_readNumber_86 (by decide) ?_
              exact ih15 (b + 1) (((x * (nI 10)) + ((rd.2 0) b)) - (nI 48)) (by first | assumption | omega) (by first | assumption | omega) (by omega) _ _ ls hP hD hS (lv_sub hl [1, 0] rfl)
          · skip
            refine lv_if_eq (tgt := 89) hx hb dX1_readNumber_38 (by decide) (fun _ => ?_) (fun c9 => absurd (by decide) c9)
            refine lv_aload_n hx hb dX1_readNumber_89 rfl (lv_at hl 0 rfl) ?_
            refine va_get (D := gD G) (ci := 1) (v := .int (nI b)) (C := RX1) (T := TX1) (N := 10) hx hb hts hiX1 hown hK hP 0 rfl rfl 2 (by decide) k19 (fun _ h9 => h9) rfl dX1_readNumber_90 ?_
            refine lv_aload_n hx hb dX1_readNumber_93 rfl (lv_at hl 0 rfl) ?_
            refine va_get (D := gD G) (ci := 1) (v := .int (nI b1)) (C := RX1) (T := TX1) (N := 10) hx hb hts hiX1 hown hK hP 0 rfl rfl 3 (by decide) k22 (fun _ h9 => h9) rfl dX1_readNumber_94 ?_
            refine lv_icmp_ne (tgt := 112) hx hb dX1_readNumber_97 (by decide) (fun c97 => ?_) (fun c97 => ?_)
            · skip
              have n97 : ¬ (b = b1) := fun q9 => c97 ((nI_eq (a := b) (b := b1) (by omega) (by omega)).mpr q9)
              refine lv_aload_n hx hb dX1_readNumber_112 rfl (lv_at hl 0 rfl) ?_
              refine va_get (D := gD G) (ci := 1) (v := .int (nI b)) (C := RX1) (T := TX1) (N := 10) hx hb hts hiX1 hown hK hP 0 rfl rfl 2 (by decide) k19 (fun _ h9 => h9) rfl dX1_readNumber_113 ?_
              refine lv_aload_n hx hb dX1_readNumber_116 rfl (lv_at hl 0 rfl) ?_
              refine va_get (D := gD G) (ci := 1) (v := .int (nI b1)) (C := RX1) (T := TX1) (N := 10) hx hb hts hiX1 hown hK hP 0 rfl rfl 3 (by decide) k22 (fun _ h9 => h9) rfl dX1_readNumber_117 ?_
              refine lv_isub hx hb dX1_readNumber_120 ?_
              refine topE (y := nI (b - b1)) (pk_sub (by omega)) ?_
              refine lv_iconst (v := nI 2) hx hb dX1_readNumber_121 (by decide) ?_
              refine lv_icmp_le (tgt := 134) hx hb dX1_readNumber_122 (by decide) (fun c122 => ?_) (fun c122 => ?_)
              · skip
                have n122 : (b - b1) ≤ 2 := (nI_leI (a := b - b1) (b := 2) (by omega) (by omega)).mp c122
                refine lv_iload_n hx hb dX1_readNumber_134 rfl (lv_at hl 1 rfl) ?_
                exact W.iret (v := x) hx hb hr (fun t ht hW => ⟨⟨x, (oI (oI rd 3 (nI b1)) 2 (nI b), w), rfl, ⟨_, b, rfl, by repeat (first | exact rel.refl _ | exact rel.mono (by assumption) (by decide) (by decide) | refine rel.I (by decide) ?_ | refine rel.A (by decide) ?_ | refine rel.trans ?_ (rel.mono (by assumption) (by decide) (by decide))), rfl, by omega⟩, show PP G (rv G h (oI (oI rd 3 (nI b1)) 2 (nI b)) w) t.heap by rw [ht]; exact hP⟩, hS.F ht⟩) hS.2.2 dX1_readNumber_135
              · skip
                have n122 : ¬ ((b - b1) ≤ 2) := fun q9 => c122 ((nI_leI (a := b - b1) (b := 2) (by omega) (by omega)).mpr q9)
                refine lv_aload_n hx hb dX1_readNumber_125 rfl (lv_at hl 0 rfl) ?_
                refine lv_iconst (v := nI 2) hx hb dX1_readNumber_126 (by decide) ?_
                refine lv_aload_n hx hb dX1_readNumber_127 rfl (lv_at hl 0 rfl) ?_
                refine va_get (D := gD G) (ci := 1) (v := .int (nI b1)) (C := RX1) (T := TX1) (N := 10) hx hb hts hiX1 hown hK hP 0 rfl rfl 3 (by decide) k22 (fun _ h9 => h9) rfl dX1_readNumber_128 ?_
                refine cXv (As := [.int (nI 2), .int (nI b1)]) (rest := []) (S := oS × oS) (wa := rv G h (oI (oI rd 3 (nI b1)) 2 (nI b)) w) (w1 := fun v => rv G h v.1 v.2) ⟨hx, hb, hml, hown, hts⟩ (mt_X1_fail l G h _ (oI (oI rd 3 (nI b1)) 2 (nI b)) w (nI 2) (nI b1)) (cwV 2 hts gX1_readNumber_X1_fail rfl rfl rfl (by decide +kernel) ⟨Nat.le_of_ble_eq_true rfl, Nat.le_of_ble_eq_true rfl⟩) hK hN hP hD hS hA (fun _ => rfl) 0 1 rfl rfl rfl hl.1 rfl (Nat.le_of_ble_eq_true rfl) ⟨Nat.zero_le _, Nat.zero_le _⟩ dX1_readNumber_131 (fun u131 H locs hw131 hP hD hS => ?_)
                obtain ⟨q131, rfl, hR131⟩ := hw131
                have hP : PP G (rv G h q131 w) H := hP
                have hD : va_D A (rv G h q131 w) := hD
                refine lv_iload_n hx hb dX1_readNumber_134 rfl (lv_at hl 1 rfl) ?_
                exact W.iret (v := x) hx hb hr (fun t ht hW => ⟨⟨x, (q131, w), rfl, ⟨_, b, rfl, by repeat (first | exact rel.refl _ | exact rel.mono (by assumption) (by decide) (by decide) | refine rel.I (by decide) ?_ | refine rel.A (by decide) ?_ | refine rel.trans ?_ (rel.mono (by assumption) (by decide) (by decide))), (hR131.1 2 (by decide)).trans rfl, by omega⟩, show PP G (rv G h q131 w) t.heap by rw [ht]; exact hP⟩, hS.F ht⟩) hS.2.2 dX1_readNumber_135
            · skip
              have n97 : b = b1 := (nI_eq (a := b) (b := b1) (by omega) (by omega)).mp c97
              refine lv_aload_n hx hb dX1_readNumber_100 rfl (lv_at hl 0 rfl) ?_
              refine lv_iconst (v := nI 1) hx hb dX1_readNumber_101 (by decide) ?_
              refine lv_aload_n hx hb dX1_readNumber_102 rfl (lv_at hl 0 rfl) ?_
              refine va_get (D := gD G) (ci := 1) (v := .int (nI b)) (C := RX1) (T := TX1) (N := 10) hx hb hts hiX1 hown hK hP 0 rfl rfl 2 (by decide) k19 (fun _ h9 => h9) rfl dX1_readNumber_103 ?_
              refine cXv (As := [.int (nI 1), .int (nI b)]) (rest := []) (S := oS × oS) (wa := rv G h (oI (oI rd 3 (nI b1)) 2 (nI b)) w) (w1 := fun v => rv G h v.1 v.2) ⟨hx, hb, hml, hown, hts⟩ (mt_X1_fail l G h _ (oI (oI rd 3 (nI b1)) 2 (nI b)) w (nI 1) (nI b)) (cwV 2 hts gX1_readNumber_X1_fail rfl rfl rfl (by decide +kernel) ⟨Nat.le_of_ble_eq_true rfl, Nat.le_of_ble_eq_true rfl⟩) hK hN hP hD hS hA (fun _ => rfl) 0 1 rfl rfl rfl hl.1 rfl (Nat.le_of_ble_eq_true rfl) ⟨Nat.zero_le _, Nat.zero_le _⟩ dX1_readNumber_106 (fun u106 H locs hw106 hP hD hS => ?_)
              obtain ⟨q106, rfl, hR106⟩ := hw106
              have hP : PP G (rv G h q106 w) H := hP
              have hD : va_D A (rv G h q106 w) := hD
              refine lv_goto (tgt := 134) hx hb dX1_readNumber_109 (by decide) ?_
              refine lv_iload_n hx hb dX1_readNumber_134 rfl (lv_at hl 1 rfl) ?_
              exact W.iret (v := x) hx hb hr (fun t ht hW => ⟨⟨x, (q106, w), rfl, ⟨_, b, rfl, by repeat (first | exact rel.refl _ | exact rel.mono (by assumption) (by decide) (by decide) | refine rel.I (by decide) ?_ | refine rel.A (by decide) ?_ | refine rel.trans ?_ (rel.mono (by assumption) (by decide) (by decide))), (hR106.1 2 (by decide)).trans rfl, by omega⟩, show PP G (rv G h q106 w) t.heap by rw [ht]; exact hP⟩, hS.F ht⟩) hS.2.2 dX1_readNumber_135
    exact LP15 (len - b1 + 1) b1 (nI 0) (by first | assumption | omega) (by first | assumption | omega) (Nat.lt_succ_self _) _ _ ls hP hD hS (lv_sub hl [1, 0] rfl)
  · skip
    have hP : PP G (rv G h (oI rd 2 (nI b1)) w) H := hP
    have hD : va_D A (rv G h (oI rd 2 (nI b1)) w) := hD
    refine lv_pop hx hb dX1_readNumber_4 rfl ?_
    refine lv_aload_n hx hb dX1_readNumber_5 rfl (lv_at hl 0 rfl) ?_
    refine lv_aload_n hx hb dX1_readNumber_6 rfl (lv_at hl 0 rfl) ?_
    refine va_get (D := gD G) (ci := 1) (v := .int (nI (b1))) (C := RX1) (T := TX1) (N := 10) hx hb hts hiX1 hown hK hP 0 rfl rfl 2 (by decide) k19 (fun _ h9 => h9) rfl dX1_readNumber_7 ?_
    refine va_put (D := gD G) (ci := 1) (v := .int (nI (b1))) (ty := .int) (C := RX1) (T := TX1) (N := 10) hx hb hts hiX1 tyX1 tyX1_ok nmX1 hown hK hP hD hS 0 rfl rfl 3 (by decide) k22 (fun _ h9 => h9) rfl (by decide +kernel) (rfl) (rfl) (Nat.le_of_ble_eq_true rfl) dX1_readNumber_10 (fun H locs hP hD hS => ?_)
    have hP : PP G (rv G h (oI (oI rd 2 (nI b1)) 3 (nI (b1))) w) H := hP
    have hD : va_D A (rv G h (oI (oI rd 2 (nI b1)) 3 (nI (b1))) w) := hD
    refine lv_iconst (v := nI 0) hx hb dX1_readNumber_13 (by decide) ?_
    refine lv_istore_n (lv' := [(1, .int (nI 0)), (0, .ref (h 0))]) hx hb dX1_readNumber_14 rfl hl (by decide) rfl (fun ls hl => ?_)
    have LP15 : ∀ (n15m : Nat), ∀ (b : Nat) (x : Int32) (hbb : b1 ≤ b) (hbl : b ≤ len), (len - b < n15m) → ∀ (H : Heap) (locs : List Loc) (ls : Array Slot), PP G (rv G h (oI (oI rd 3 (nI b1)) 2 (nI b)) w) H → va_D A (rv G h (oI (oI rd 3 (nI b1)) 2 (nI b)) w) → va_S A s.heap H locs → lv_has ls 2 [(0, .ref (h 0)), (1, .int x)] → W p l e (headSpec wsX1_readNumber ({ frames := 1, cells := 0, slots := 0, locals := 22 })).room s m ([.ref (h 0)] : List Value).toArray below meth c H locs 0 0 (MQ below (va_Qi (fun (r : Int32) (v : oS × oS) => ∃ q b, v = (q, w) ∧ rel [2, 3, 4, 5] [] rd q ∧ q.1 2 = nI b ∧ b ≤ len) (fun v t => PP G (rv G h v.1 v.2) t.heap) A) ([.ref (h 0)] : List Value).toArray s 0 0 A) (F0 m 15 ls []) := by
      intro n15m
      induction n15m with
      | zero => intro b x hbb hbl hmu H locs ls hP hD hS hl; exact absurd hmu (Nat.not_lt_zero _)
      | succ n15m ih15 =>
        intro b x hbb hbl hmu H locs ls hP hD hS hl
        refine lv_aload_n hx hb dX1_readNumber_15 rfl (lv_at hl 0 rfl) ?_
        refine va_get (D := gD G) (ci := 1) (v := .int (nI b)) (C := RX1) (T := TX1) (N := 10) hx hb hts hiX1 hown hK hP 0 rfl rfl 2 (by decide) k19 (fun _ h9 => h9) rfl dX1_readNumber_16 ?_
        refine lv_aload_n hx hb dX1_readNumber_19 rfl (lv_at hl 0 rfl) ?_
        refine va_get (D := gD G) (ci := 1) (v := .int (rd.1 1)) (C := RX1) (T := TX1) (N := 10) hx hb hts hiX1 hown hK hP 0 rfl rfl 1 (by decide) k15 (fun _ h9 => h9) rfl dX1_readNumber_20 ?_
        refine topE hlen ?_
        refine lv_icmp_ge (tgt := 89) hx hb dX1_readNumber_23 (by decide) (fun c23 => ?_) (fun c23 => ?_)
        · skip
          have n23 : len ≤ b := (nI_leI (a := len) (b := b) (by omega) (by omega)).mp c23
          refine lv_aload_n hx hb dX1_readNumber_89 rfl (lv_at hl 0 rfl) ?_
          refine va_get (D := gD G) (ci := 1) (v := .int (nI b)) (C := RX1) (T := TX1) (N := 10) hx hb hts hiX1 hown hK hP 0 rfl rfl 2 (by decide) k19 (fun _ h9 => h9) rfl dX1_readNumber_90 ?_
          refine lv_aload_n hx hb dX1_readNumber_93 rfl (lv_at hl 0 rfl) ?_
          refine va_get (D := gD G) (ci := 1) (v := .int (nI b1)) (C := RX1) (T := TX1) (N := 10) hx hb hts hiX1 hown hK hP 0 rfl rfl 3 (by decide) k22 (fun _ h9 => h9) rfl dX1_readNumber_94 ?_
          refine lv_icmp_ne (tgt := 112) hx hb dX1_readNumber_97 (by decide) (fun c97 => ?_) (fun c97 => ?_)
          · skip
            have n97 : ¬ (b = b1) := fun q9 => c97 ((nI_eq (a := b) (b := b1) (by omega) (by omega)).mpr q9)
            refine lv_aload_n hx hb dX1_readNumber_112 rfl (lv_at hl 0 rfl) ?_
            refine va_get (D := gD G) (ci := 1) (v := .int (nI b)) (C := RX1) (T := TX1) (N := 10) hx hb hts hiX1 hown hK hP 0 rfl rfl 2 (by decide) k19 (fun _ h9 => h9) rfl dX1_readNumber_113 ?_
            refine lv_aload_n hx hb dX1_readNumber_116 rfl (lv_at hl 0 rfl) ?_
            refine va_get (D := gD G) (ci := 1) (v := .int (nI b1)) (C := RX1) (T := TX1) (N := 10) hx hb hts hiX1 hown hK hP 0 rfl rfl 3 (by decide) k22 (fun _ h9 => h9) rfl dX1_readNumber_117 ?_
            refine lv_isub hx hb dX1_readNumber_120 ?_
            refine topE (y := nI (b - b1)) (pk_sub (by omega)) ?_
            refine lv_iconst (v := nI 2) hx hb dX1_readNumber_121 (by decide) ?_
            refine lv_icmp_le (tgt := 134) hx hb dX1_readNumber_122 (by decide) (fun c122 => ?_) (fun c122 => ?_)
            · skip
              have n122 : (b - b1) ≤ 2 := (nI_leI (a := b - b1) (b := 2) (by omega) (by omega)).mp c122
              refine lv_iload_n hx hb dX1_readNumber_134 rfl (lv_at hl 1 rfl) ?_
              exact W.iret (v := x) hx hb hr (fun t ht hW => ⟨⟨x, (oI (oI rd 3 (nI b1)) 2 (nI b), w), rfl, ⟨_, b, rfl, by repeat (first | exact rel.refl _ | exact rel.mono (by assumption) (by decide) (by decide) | refine rel.I (by decide) ?_ | refine rel.A (by decide) ?_ | refine rel.trans ?_ (rel.mono (by assumption) (by decide) (by decide))), rfl, by omega⟩, show PP G (rv G h (oI (oI rd 3 (nI b1)) 2 (nI b)) w) t.heap by rw [ht]; exact hP⟩, hS.F ht⟩) hS.2.2 dX1_readNumber_135
            · skip
              have n122 : ¬ ((b - b1) ≤ 2) := fun q9 => c122 ((nI_leI (a := b - b1) (b := 2) (by omega) (by omega)).mpr q9)
              refine lv_aload_n hx hb dX1_readNumber_125 rfl (lv_at hl 0 rfl) ?_
              refine lv_iconst (v := nI 2) hx hb dX1_readNumber_126 (by decide) ?_
              refine lv_aload_n hx hb dX1_readNumber_127 rfl (lv_at hl 0 rfl) ?_
              refine va_get (D := gD G) (ci := 1) (v := .int (nI b1)) (C := RX1) (T := TX1) (N := 10) hx hb hts hiX1 hown hK hP 0 rfl rfl 3 (by decide) k22 (fun _ h9 => h9) rfl dX1_readNumber_128 ?_
              refine cXv (As := [.int (nI 2), .int (nI b1)]) (rest := []) (S := oS × oS) (wa := rv G h (oI (oI rd 3 (nI b1)) 2 (nI b)) w) (w1 := fun v => rv G h v.1 v.2) ⟨hx, hb, hml, hown, hts⟩ (mt_X1_fail l G h _ (oI (oI rd 3 (nI b1)) 2 (nI b)) w (nI 2) (nI b1)) (cwV 2 hts gX1_readNumber_X1_fail rfl rfl rfl (by decide +kernel) ⟨Nat.le_of_ble_eq_true rfl, Nat.le_of_ble_eq_true rfl⟩) hK hN hP hD hS hA (fun _ => rfl) 0 1 rfl rfl rfl hl.1 rfl (Nat.le_of_ble_eq_true rfl) ⟨Nat.zero_le _, Nat.zero_le _⟩ dX1_readNumber_131 (fun u131 H locs hw131 hP hD hS => ?_)
              obtain ⟨q131, rfl, hR131⟩ := hw131
              have hP : PP G (rv G h q131 w) H := hP
              have hD : va_D A (rv G h q131 w) := hD
              refine lv_iload_n hx hb dX1_readNumber_134 rfl (lv_at hl 1 rfl) ?_
              exact W.iret (v := x) hx hb hr (fun t ht hW => ⟨⟨x, (q131, w), rfl, ⟨_, b, rfl, by repeat (first | exact rel.refl _ | exact rel.mono (by assumption) (by decide) (by decide) | refine rel.I (by decide) ?_ | refine rel.A (by decide) ?_ | refine rel.trans ?_ (rel.mono (by assumption) (by decide) (by decide))), (hR131.1 2 (by decide)).trans rfl, by omega⟩, show PP G (rv G h q131 w) t.heap by rw [ht]; exact hP⟩, hS.F ht⟩) hS.2.2 dX1_readNumber_135
          · skip
            have n97 : b = b1 := (nI_eq (a := b) (b := b1) (by omega) (by omega)).mp c97
            refine lv_aload_n hx hb dX1_readNumber_100 rfl (lv_at hl 0 rfl) ?_
            refine lv_iconst (v := nI 1) hx hb dX1_readNumber_101 (by decide) ?_
            refine lv_aload_n hx hb dX1_readNumber_102 rfl (lv_at hl 0 rfl) ?_
            refine va_get (D := gD G) (ci := 1) (v := .int (nI b)) (C := RX1) (T := TX1) (N := 10) hx hb hts hiX1 hown hK hP 0 rfl rfl 2 (by decide) k19 (fun _ h9 => h9) rfl dX1_readNumber_103 ?_
            refine cXv (As := [.int (nI 1), .int (nI b)]) (rest := []) (S := oS × oS) (wa := rv G h (oI (oI rd 3 (nI b1)) 2 (nI b)) w) (w1 := fun v => rv G h v.1 v.2) ⟨hx, hb, hml, hown, hts⟩ (mt_X1_fail l G h _ (oI (oI rd 3 (nI b1)) 2 (nI b)) w (nI 1) (nI b)) (cwV 2 hts gX1_readNumber_X1_fail rfl rfl rfl (by decide +kernel) ⟨Nat.le_of_ble_eq_true rfl, Nat.le_of_ble_eq_true rfl⟩) hK hN hP hD hS hA (fun _ => rfl) 0 1 rfl rfl rfl hl.1 rfl (Nat.le_of_ble_eq_true rfl) ⟨Nat.zero_le _, Nat.zero_le _⟩ dX1_readNumber_106 (fun u106 H locs hw106 hP hD hS => ?_)
            obtain ⟨q106, rfl, hR106⟩ := hw106
            have hP : PP G (rv G h q106 w) H := hP
            have hD : va_D A (rv G h q106 w) := hD
            refine lv_goto (tgt := 134) hx hb dX1_readNumber_109 (by decide) ?_
            refine lv_iload_n hx hb dX1_readNumber_134 rfl (lv_at hl 1 rfl) ?_
            exact W.iret (v := x) hx hb hr (fun t ht hW => ⟨⟨x, (q106, w), rfl, ⟨_, b, rfl, by repeat (first | exact rel.refl _ | exact rel.mono (by assumption) (by decide) (by decide) | refine rel.I (by decide) ?_ | refine rel.A (by decide) ?_ | refine rel.trans ?_ (rel.mono (by assumption) (by decide) (by decide))), (hR106.1 2 (by decide)).trans rfl, by omega⟩, show PP G (rv G h q106 w) t.heap by rw [ht]; exact hP⟩, hS.F ht⟩) hS.2.2 dX1_readNumber_135
        · skip
          have n23 : ¬ (len ≤ b) := fun q9 => c23 ((nI_leI (a := len) (b := b) (by omega) (by omega)).mpr q9)
          refine lv_aload_n hx hb dX1_readNumber_26 rfl (lv_at hl 0 rfl) ?_
          refine va_get (D := gD G) (ci := 1) (v := .ref (h 1)) (C := RX1) (T := TX1) (N := 10) hx hb hts hiX1 hown hK hP 0 rfl rfl 0 (by decide) k9 (fun _ h9 => h9) rfl dX1_readNumber_27 ?_
          refine lv_aload_n hx hb dX1_readNumber_30 rfl (lv_at hl 0 rfl) ?_
          refine va_get (D := gD G) (ci := 1) (v := .int (nI b)) (C := RX1) (T := TX1) (N := 10) hx hb hts hiX1 hown hK hP 0 rfl rfl 2 (by decide) k19 (fun _ h9 => h9) rfl dX1_readNumber_31 ?_
          refine ialdN (f := rd.2 0) (n := 240) (k := b) hx hb hK hP 1 rfl rfl (by omega) dX1_readNumber_34 ?_
          refine cSi (As := [.int ((rd.2 0) b)]) (rest := []) ⟨hx, hb, hml, hown, hts⟩ (mt_X1_isFigure l ((rd.2 0) b)) (va_cwS 1 hts gX1_readNumber_X1_isFigure rfl rfl rfl (by decide +kernel) ⟨Nat.le_of_ble_eq_true rfl, Nat.le_of_ble_eq_true rfl⟩) rfl hl.1 rfl (Nat.le_of_ble_eq_true rfl) ⟨Nat.zero_le _, Nat.zero_le _⟩ dX1_readNumber_35 (fun r35 hw35 => ?_)
          rcases hw35 with rfl | rfl
          · skip
            refine lv_if_eq (tgt := 89) hx hb dX1_readNumber_38 (by decide) (fun c9 => absurd c9 (by decide)) (fun _ => ?_)
            refine lv_aload_n hx hb dX1_readNumber_41 rfl (lv_at hl 0 rfl) ?_
            refine va_get (D := gD G) (ci := 1) (v := .int (nI b)) (C := RX1) (T := TX1) (N := 10) hx hb hts hiX1 hown hK hP 0 rfl rfl 2 (by decide) k19 (fun _ h9 => h9) rfl dX1_readNumber_42 ?_
            refine lv_aload_n hx hb dX1_readNumber_45 rfl (lv_at hl 0 rfl) ?_
            refine va_get (D := gD G) (ci := 1) (v := .int (nI b1)) (C := RX1) (T := TX1) (N := 10) hx hb hts hiX1 hown hK hP 0 rfl rfl 3 (by decide) k22 (fun _ h9 => h9) rfl dX1_readNumber_46 ?_
            refine lv_isub hx hb dX1_readNumber_49 ?_
            refine topE (y := nI (b - b1)) (pk_sub (by omega)) ?_
            refine lv_iconst (v := nI 2) hx hb dX1_readNumber_50 (by decide) ?_
            refine lv_icmp_ge (tgt := 74) hx hb dX1_readNumber_51 (by decide) (fun c51 => ?_) (fun c51 => ?_)
            · skip
              have n51 : 2 ≤ (b - b1) := (nI_leI (a := 2) (b := b - b1) (by omega) (by omega)).mp c51
              refine lv_iload_n hx hb dX1_readNumber_74 rfl (lv_at hl 1 rfl) ?_
              refine lv_istore_n (lv' := [(1, .int x), (0, .ref (h 0))]) hx hb dX1_readNumber_75 rfl hl (by decide) rfl (fun ls hl => ?_)
              refine lv_aload_n hx hb dX1_readNumber_76 rfl (lv_at hl 1 rfl) ?_
              refine lv_dup hx hb dX1_readNumber_77 rfl ?_
              refine va_get (D := gD G) (ci := 1) (v := .int (nI b)) (C := RX1) (T := TX1) (N := 10) hx hb hts hiX1 hown hK hP 0 rfl rfl 2 (by decide) k19 (fun _ h9 => h9) rfl dX1_readNumber_78 ?_
              refine lv_iconst (v := nI 1) hx hb dX1_readNumber_81 (by decide) ?_
              refine lv_iadd hx hb dX1_readNumber_82 ?_
              refine topE (y := nI (b + 1)) (nI_add b 1) ?_
              refine va_put (D := gD G) (ci := 1) (v := .int (nI (b + 1))) (ty := .int) (C := RX1) (T := TX1) (N := 10) hx hb hts hiX1 tyX1 tyX1_ok nmX1 hown hK hP hD hS 0 rfl rfl 2 (by decide) k19 (fun _ h9 => h9) rfl (by decide +kernel) (rfl) (rfl) (Nat.le_of_ble_eq_true rfl) dX1_readNumber_83 (fun H locs hP hD hS => ?_)
              have hP : PP G (rv G h (oI (oI (oI rd 3 (nI b1)) 2 (nI b)) 2 (nI (b + 1))) w) H := hP
              have hD : va_D A (rv G h (oI (oI (oI rd 3 (nI b1)) 2 (nI b)) 2 (nI (b + 1))) w) := hD
              refine lv_goto (tgt := 15) hx hb dX1_readNumber_86 (by decide) ?_
              exact ih15 (b + 1) x (by first | assumption | omega) (by first | assumption | omega) (by omega) _ _ ls hP hD hS (lv_sub hl [1, 0] rfl)
            · skip
              have n51 : ¬ (2 ≤ (b - b1)) := fun q9 => c51 ((nI_leI (a := 2) (b := b - b1) (by omega) (by omega)).mpr q9)
              refine lv_iload_n hx hb dX1_readNumber_54 rfl (lv_at hl 1 rfl) ?_
              refine lv_bipush (v := nI 10) hx hb dX1_readNumber_55 (by decide) ?_
              refine lv_imul hx hb dX1_readNumber_57 ?_
              refine lv_aload_n hx hb dX1_readNumber_58 rfl (lv_at hl 0 rfl) ?_
              refine va_get (D := gD G) (ci := 1) (v := .ref (h 1)) (C := RX1) (T := TX1) (N := 10) hx hb hts hiX1 hown hK hP 0 rfl rfl 0 (by decide) k9 (fun _ h9 => h9) rfl dX1_readNumber_59 ?_
              refine lv_aload_n hx hb dX1_readNumber_62 rfl (lv_at hl 0 rfl) ?_
              refine va_get (D := gD G) (ci := 1) (v := .int (nI b)) (C := RX1) (T := TX1) (N := 10) hx hb hts hiX1 hown hK hP 0 rfl rfl 2 (by decide) k19 (fun _ h9 => h9) rfl dX1_readNumber_63 ?_
              refine ialdN (f := rd.2 0) (n := 240) (k := b) hx hb hK hP 1 rfl rfl (by omega) dX1_readNumber_66 ?_
              refine lv_iadd hx hb dX1_readNumber_67 ?_
              refine lv_bipush (v := nI 48) hx hb dX1_readNumber_68 (by decide) ?_
              refine lv_isub hx hb dX1_readNumber_70 ?_
              refine lv_goto (tgt := 75) hx hb dX1_readNumber_71 (by decide) ?_
              refine lv_istore_n (lv' := [(1, .int (((x * (nI 10)) + ((rd.2 0) b)) - (nI 48))), (0, .ref (h 0))]) hx hb dX1_readNumber_75 rfl hl (by decide) rfl (fun ls hl => ?_)
              refine lv_aload_n hx hb dX1_readNumber_76 rfl (lv_at hl 1 rfl) ?_
              refine lv_dup hx hb dX1_readNumber_77 rfl ?_
              refine va_get (D := gD G) (ci := 1) (v := .int (nI b)) (C := RX1) (T := TX1) (N := 10) hx hb hts hiX1 hown hK hP 0 rfl rfl 2 (by decide) k19 (fun _ h9 => h9) rfl dX1_readNumber_78 ?_
              refine lv_iconst (v := nI 1) hx hb dX1_readNumber_81 (by decide) ?_
              refine lv_iadd hx hb dX1_readNumber_82 ?_
              refine topE (y := nI (b + 1)) (nI_add b 1) ?_
              refine va_put (D := gD G) (ci := 1) (v := .int (nI (b + 1))) (ty := .int) (C := RX1) (T := TX1) (N := 10) hx hb hts hiX1 tyX1 tyX1_ok nmX1 hown hK hP hD hS 0 rfl rfl 2 (by decide) k19 (fun _ h9 => h9) rfl (by decide +kernel) (rfl) (rfl) (Nat.le_of_ble_eq_true rfl) dX1_readNumber_83 (fun H locs hP hD hS => ?_)
              have hP : PP G (rv G h (oI (oI (oI rd 3 (nI b1)) 2 (nI b)) 2 (nI (b + 1))) w) H := hP
              have hD : va_D A (rv G h (oI (oI (oI rd 3 (nI b1)) 2 (nI b)) 2 (nI (b + 1))) w) := hD
              refine lv_goto (tgt := 15) hx hb dX1_readNumber_86 (by decide) ?_
              exact ih15 (b + 1) (((x * (nI 10)) + ((rd.2 0) b)) - (nI 48)) (by first | assumption | omega) (by first | assumption | omega) (by omega) _ _ ls hP hD hS (lv_sub hl [1, 0] rfl)
          · skip
            refine lv_if_eq (tgt := 89) hx hb dX1_readNumber_38 (by decide) (fun _ => ?_) (fun c9 => absurd (by decide) c9)
            refine lv_aload_n hx hb dX1_readNumber_89 rfl (lv_at hl 0 rfl) ?_
            refine va_get (D := gD G) (ci := 1) (v := .int (nI b)) (C := RX1) (T := TX1) (N := 10) hx hb hts hiX1 hown hK hP 0 rfl rfl 2 (by decide) k19 (fun _ h9 => h9) rfl dX1_readNumber_90 ?_
            refine lv_aload_n hx hb dX1_readNumber_93 rfl (lv_at hl 0 rfl) ?_
            refine va_get (D := gD G) (ci := 1) (v := .int (nI b1)) (C := RX1) (T := TX1) (N := 10) hx hb hts hiX1 hown hK hP 0 rfl rfl 3 (by decide) k22 (fun _ h9 => h9) rfl dX1_readNumber_94 ?_
            refine lv_icmp_ne (tgt := 112) hx hb dX1_readNumber_97 (by decide) (fun c97 => ?_) (fun c97 => ?_)
            · skip
              have n97 : ¬ (b = b1) := fun q9 => c97 ((nI_eq (a := b) (b := b1) (by omega) (by omega)).mpr q9)
              refine lv_aload_n hx hb dX1_readNumber_112 rfl (lv_at hl 0 rfl) ?_
              refine va_get (D := gD G) (ci := 1) (v := .int (nI b)) (C := RX1) (T := TX1) (N := 10) hx hb hts hiX1 hown hK hP 0 rfl rfl 2 (by decide) k19 (fun _ h9 => h9) rfl dX1_readNumber_113 ?_
              refine lv_aload_n hx hb dX1_readNumber_116 rfl (lv_at hl 0 rfl) ?_
              refine va_get (D := gD G) (ci := 1) (v := .int (nI b1)) (C := RX1) (T := TX1) (N := 10) hx hb hts hiX1 hown hK hP 0 rfl rfl 3 (by decide) k22 (fun _ h9 => h9) rfl dX1_readNumber_117 ?_
              refine lv_isub hx hb dX1_readNumber_120 ?_
              refine topE (y := nI (b - b1)) (pk_sub (by omega)) ?_
              refine lv_iconst (v := nI 2) hx hb dX1_readNumber_121 (by decide) ?_
              refine lv_icmp_le (tgt := 134) hx hb dX1_readNumber_122 (by decide) (fun c122 => ?_) (fun c122 => ?_)
              · skip
                have n122 : (b - b1) ≤ 2 := (nI_leI (a := b - b1) (b := 2) (by omega) (by omega)).mp c122
                refine lv_iload_n hx hb dX1_readNumber_134 rfl (lv_at hl 1 rfl) ?_
                exact W.iret (v := x) hx hb hr (fun t ht hW => ⟨⟨x, (oI (oI rd 3 (nI b1)) 2 (nI b), w), rfl, ⟨_, b, rfl, by repeat (first | exact rel.refl _ | exact rel.mono (by assumption) (by decide) (by decide) | refine rel.I (by decide) ?_ | refine rel.A (by decide) ?_ | refine rel.trans ?_ (rel.mono (by assumption) (by decide) (by decide))), rfl, by omega⟩, show PP G (rv G h (oI (oI rd 3 (nI b1)) 2 (nI b)) w) t.heap by rw [ht]; exact hP⟩, hS.F ht⟩) hS.2.2 dX1_readNumber_135
              · skip
                have n122 : ¬ ((b - b1) ≤ 2) := fun q9 => c122 ((nI_leI (a := b - b1) (b := 2) (by omega) (by omega)).mpr q9)
                refine lv_aload_n hx hb dX1_readNumber_125 rfl (lv_at hl 0 rfl) ?_
                refine lv_iconst (v := nI 2) hx hb dX1_readNumber_126 (by decide) ?_
                refine lv_aload_n hx hb dX1_readNumber_127 rfl (lv_at hl 0 rfl) ?_
                refine va_get (D := gD G) (ci := 1) (v := .int (nI b1)) (C := RX1) (T := TX1) (N := 10) hx hb hts hiX1 hown hK hP 0 rfl rfl 3 (by decide) k22 (fun _ h9 => h9) rfl dX1_readNumber_128 ?_
                refine cXv (As := [.int (nI 2), .int (nI b1)]) (rest := []) (S := oS × oS) (wa := rv G h (oI (oI rd 3 (nI b1)) 2 (nI b)) w) (w1 := fun v => rv G h v.1 v.2) ⟨hx, hb, hml, hown, hts⟩ (mt_X1_fail l G h _ (oI (oI rd 3 (nI b1)) 2 (nI b)) w (nI 2) (nI b1)) (cwV 2 hts gX1_readNumber_X1_fail rfl rfl rfl (by decide +kernel) ⟨Nat.le_of_ble_eq_true rfl, Nat.le_of_ble_eq_true rfl⟩) hK hN hP hD hS hA (fun _ => rfl) 0 1 rfl rfl rfl hl.1 rfl (Nat.le_of_ble_eq_true rfl) ⟨Nat.zero_le _, Nat.zero_le _⟩ dX1_readNumber_131 (fun u131 H locs hw131 hP hD hS => ?_)
                obtain ⟨q131, rfl, hR131⟩ := hw131
                have hP : PP G (rv G h q131 w) H := hP
                have hD : va_D A (rv G h q131 w) := hD
                refine lv_iload_n hx hb dX1_readNumber_134 rfl (lv_at hl 1 rfl) ?_
                exact W.iret (v := x) hx hb hr (fun t ht hW => ⟨⟨x, (q131, w), rfl, ⟨_, b, rfl, by repeat (first | exact rel.refl _ | exact rel.mono (by assumption) (by decide) (by decide) | refine rel.I (by decide) ?_ | refine rel.A (by decide) ?_ | refine rel.trans ?_ (rel.mono (by assumption) (by decide) (by decide))), (hR131.1 2 (by decide)).trans rfl, by omega⟩, show PP G (rv G h q131 w) t.heap by rw [ht]; exact hP⟩, hS.F ht⟩) hS.2.2 dX1_readNumber_135
            · skip
              have n97 : b = b1 := (nI_eq (a := b) (b := b1) (by omega) (by omega)).mp c97
              refine lv_aload_n hx hb dX1_readNumber_100 rfl (lv_at hl 0 rfl) ?_
              refine lv_iconst (v := nI 1) hx hb dX1_readNumber_101 (by decide) ?_
              refine lv_aload_n hx hb dX1_readNumber_102 rfl (lv_at hl 0 rfl) ?_
              refine va_get (D := gD G) (ci := 1) (v := .int (nI b)) (C := RX1) (T := TX1) (N := 10) hx hb hts hiX1 hown hK hP 0 rfl rfl 2 (by decide) k19 (fun _ h9 => h9) rfl dX1_readNumber_103 ?_
              refine cXv (As := [.int (nI 1), .int (nI b)]) (rest := []) (S := oS × oS) (wa := rv G h (oI (oI rd 3 (nI b1)) 2 (nI b)) w) (w1 := fun v => rv G h v.1 v.2) ⟨hx, hb, hml, hown, hts⟩ (mt_X1_fail l G h _ (oI (oI rd 3 (nI b1)) 2 (nI b)) w (nI 1) (nI b)) (cwV 2 hts gX1_readNumber_X1_fail rfl rfl rfl (by decide +kernel) ⟨Nat.le_of_ble_eq_true rfl, Nat.le_of_ble_eq_true rfl⟩) hK hN hP hD hS hA (fun _ => rfl) 0 1 rfl rfl rfl hl.1 rfl (Nat.le_of_ble_eq_true rfl) ⟨Nat.zero_le _, Nat.zero_le _⟩ dX1_readNumber_106 (fun u106 H locs hw106 hP hD hS => ?_)
              obtain ⟨q106, rfl, hR106⟩ := hw106
              have hP : PP G (rv G h q106 w) H := hP
              have hD : va_D A (rv G h q106 w) := hD
              refine lv_goto (tgt := 134) hx hb dX1_readNumber_109 (by decide) ?_
              refine lv_iload_n hx hb dX1_readNumber_134 rfl (lv_at hl 1 rfl) ?_
              exact W.iret (v := x) hx hb hr (fun t ht hW => ⟨⟨x, (q106, w), rfl, ⟨_, b, rfl, by repeat (first | exact rel.refl _ | exact rel.mono (by assumption) (by decide) (by decide) | refine rel.I (by decide) ?_ | refine rel.A (by decide) ?_ | refine rel.trans ?_ (rel.mono (by assumption) (by decide) (by decide))), (hR106.1 2 (by decide)).trans rfl, by omega⟩, show PP G (rv G h q106 w) t.heap by rw [ht]; exact hP⟩, hS.F ht⟩) hS.2.2 dX1_readNumber_135
    exact LP15 (len - b1 + 1) b1 (nI 0) (by first | assumption | omega) (by first | assumption | omega) (Nat.lt_succ_self _) _ _ ls hP hD hS (lv_sub hl [1, 0] rfl)
set_option maxHeartbeats 1000000 in
set_option maxRecDepth 100000 in
theorem mt_X1_readVersionNumber (l : Launch) (G : gG) (h : Nat → Nat) (sz : Nat) (rd : oS) (w : oS) (len : Nat) (a0 : Nat) (nv : Nat) (hlen : rd.1 1 = nI len) (ha0 : rd.1 2 = nI a0) (hnv : w.1 0 = nI nv) (hl240 : len ≤ 240) (hAn : a0 ≤ len) (hnv24 : nv ≤ 24) : Met l yX1_readVersionNumber wsX1_readVersionNumber ({ frames := 2, cells := 0, slots := 0, locals := 43 }) (preW G (rv G h rd w) sz [.ref (h 0)]) (va_Qi (fun (r : Int32) (v : oS × oS) => ∃ q b, v = (q, w) ∧ rel [2, 3, 4, 5] [] rd q ∧ q.1 2 = nI b ∧ b ≤ len) (fun v t => PP G (rv G h v.1 v.2) t.heap) (va_A (rv G h rd w) sz)) 0 0 (va_A (rv G h rd w) sz) := by
  refine Met.ofW (cc := cX1_readVersionNumber) (maxL := 2) (ret := (some .int)) (by decide) rfl ?_
  intro p e s m args below meth c s₁ B hml hv
  obtain ⟨ha, hsz, hP, hK, hN, hD0⟩ := hv
  subst ha
  have hx := B.exec
  have hb := B.bytes
  have hr := B.returns
  have hts := atoms_spec (ws := wsX1_readVersionNumber) B.pre
  have hown : s.vm.findClass RX1 = some m.cls := findClass_of_methodNamed B.named
  have hlocks := B.notSynchronized
  subst hsz
  have hD := hD0.self (sz := s.heap.size)
  generalize hAe : va_A (rv G h rd w) s.heap.size = A at hD ⊢
  have hA : ∀ q : Nat, s.heap.size ≤ q → A q := fun q h => by rw [← hAe]; exact Or.inr h
  clear hAe hD0
  have hS : va_S A s.heap s.heap [] := va_S.rf
  have hiX1 : ∀ w ∈ wsX10, w ∈ wsX1_readVersionNumber := by decide +kernel
  have k44 := hts (.fieldLink RX1 44 "WovenHistory$Reader" "woven" "LWovenHistory$Weave;") (List.mem_of_getElem? (i := 1) rfl)
  have k22 := hts (.fieldLink RX1 22 "WovenHistory$Reader" "numberAt" "I") (List.mem_of_getElem? (i := 2) rfl)
  have hl := lv_entry ([.ref (h 0)]) (n := 2) (Nat.le_of_ble_eq_true rfl)
  rw [lg_entry_eq]
  generalize (lg_sl ([.ref (h 0)]) ++ List.replicate (2 - (lg_sl ([.ref (h 0)])).length) Slot.unset).toArray = ls at hl ⊢
  have hl : lv_has ls 2 [(0, .ref (h 0))] := hl
  refine lv_aload_n hx hb dX1_readVersionNumber_0 rfl (lv_at hl 0 rfl) ?_
  refine cXi (As := []) (rest := []) (S := oS × oS) (wa := rv G h rd w) (w1 := fun v => rv G h v.1 v.2) ⟨hx, hb, hml, hown, hts⟩ (mt_X1_readNumber l G h _ rd w len a0 (hlen) (ha0) (by first | assumption | omega) (by first | assumption | omega)) (cwV 0 hts gX1_readVersionNumber_X1_readNumber rfl rfl rfl (by decide +kernel) ⟨Nat.le_of_ble_eq_true rfl, Nat.le_of_ble_eq_true rfl⟩) hK hN hP hD hS hA (fun _ => rfl) 0 1 rfl rfl rfl hl.1 rfl (Nat.le_of_ble_eq_true rfl) ⟨Nat.zero_le _, Nat.zero_le _⟩ dX1_readVersionNumber_1 (fun r1 u1 H locs hw1 hP hD hS => ?_)
  obtain ⟨q1, b1, rfl, hR1, hb1, hbn1⟩ := hw1
  have hP : PP G (rv G h q1 w) H := hP
  have hD : va_D A (rv G h q1 w) := hD
  refine lv_istore_n (lv' := [(1, .int r1), (0, .ref (h 0))]) hx hb dX1_readVersionNumber_4 rfl hl (by decide) rfl (fun ls hl => ?_)
  refine lv_aload_n hx hb dX1_readVersionNumber_5 rfl (lv_at hl 1 rfl) ?_
  refine va_get (D := gD G) (ci := 1) (v := .ref (h 10)) (C := RX1) (T := TX1) (N := 10) hx hb hts hiX1 hown hK hP 0 rfl rfl 9 (by decide) k44 (fun _ h9 => h9) rfl dX1_readVersionNumber_6 ?_
  refine lv_iload_n hx hb dX1_readVersionNumber_9 rfl (lv_at hl 0 rfl) ?_
  refine cRi (w := wv G (fun k => h (10 + k)) w) (As := [.int r1]) (rest := []) ⟨hx, hb, hml, hown, hts⟩ (mt_X3_hasVersion l G (fun k => h (10 + k)) w nv r1 (hnv) (by first | assumption | omega)) (cwV 1 hts gX1_readVersionNumber_X3_hasVersion rfl rfl rfl (by decide +kernel) ⟨Nat.le_of_ble_eq_true rfl, Nat.le_of_ble_eq_true rfl⟩) hK hN (hP.sub [4, 5, 6, 7, 8, 9, 10, 11] rfl) 0 3 rfl rfl rfl hl.1 rfl (Nat.le_of_ble_eq_true rfl) ⟨Nat.zero_le _, Nat.zero_le _⟩ dX1_readVersionNumber_10 (fun r10 hw10 => ?_)
  rcases hw10 with ⟨rfl, j10, hj10, ej10⟩ | ⟨rfl, hn10⟩
  · skip
    refine lv_if_ne (tgt := 25) hx hb dX1_readVersionNumber_13 (by decide) (fun _ => ?_) (fun c9 => absurd c9 (by decide))
    refine lv_iload_n hx hb dX1_readVersionNumber_25 rfl (lv_at hl 0 rfl) ?_
    exact W.iret (v := r1) hx hb hr (fun t ht hW => ⟨⟨r1, (q1, w), rfl, ⟨_, b1, rfl, by repeat (first | exact rel.refl _ | exact rel.mono (by assumption) (by decide) (by decide) | refine rel.I (by decide) ?_ | refine rel.A (by decide) ?_ | refine rel.trans ?_ (rel.mono (by assumption) (by decide) (by decide))), hb1, by omega⟩, show PP G (rv G h q1 w) t.heap by rw [ht]; exact hP⟩, hS.F ht⟩) hS.2.2 dX1_readVersionNumber_26
  · skip
    refine lv_if_ne (tgt := 25) hx hb dX1_readVersionNumber_13 (by decide) (fun c9 => absurd (by decide) c9) (fun _ => ?_)
    refine lv_aload_n hx hb dX1_readVersionNumber_16 rfl (lv_at hl 1 rfl) ?_
    refine lv_iconst (v := nI 2) hx hb dX1_readVersionNumber_17 (by decide) ?_
    refine lv_aload_n hx hb dX1_readVersionNumber_18 rfl (lv_at hl 1 rfl) ?_
    refine va_get (D := gD G) (ci := 1) (v := .int (q1.1 3)) (C := RX1) (T := TX1) (N := 10) hx hb hts hiX1 hown hK hP 0 rfl rfl 3 (by decide) k22 (fun _ h9 => h9) rfl dX1_readVersionNumber_19 ?_
    refine cXv (As := [.int (nI 2), .int (q1.1 3)]) (rest := []) (S := oS × oS) (wa := rv G h q1 w) (w1 := fun v => rv G h v.1 v.2) ⟨hx, hb, hml, hown, hts⟩ (mt_X1_fail l G h _ q1 w (nI 2) (q1.1 3)) (cwV 2 hts gX1_readVersionNumber_X1_fail rfl rfl rfl (by decide +kernel) ⟨Nat.le_of_ble_eq_true rfl, Nat.le_of_ble_eq_true rfl⟩) hK hN hP hD hS hA (fun _ => rfl) 0 1 rfl rfl rfl hl.1 rfl (Nat.le_of_ble_eq_true rfl) ⟨Nat.zero_le _, Nat.zero_le _⟩ dX1_readVersionNumber_22 (fun u22 H locs hw22 hP hD hS => ?_)
    obtain ⟨q22, rfl, hR22⟩ := hw22
    have hP : PP G (rv G h q22 w) H := hP
    have hD : va_D A (rv G h q22 w) := hD
    refine lv_iload_n hx hb dX1_readVersionNumber_25 rfl (lv_at hl 0 rfl) ?_
    exact W.iret (v := r1) hx hb hr (fun t ht hW => ⟨⟨r1, (q22, w), rfl, ⟨_, b1, rfl, by repeat (first | exact rel.refl _ | exact rel.mono (by assumption) (by decide) (by decide) | refine rel.I (by decide) ?_ | refine rel.A (by decide) ?_ | refine rel.trans ?_ (rel.mono (by assumption) (by decide) (by decide))), (hR22.1 2 (by decide)).trans (hb1), by omega⟩, show PP G (rv G h q22 w) t.heap by rw [ht]; exact hP⟩, hS.F ht⟩) hS.2.2 dX1_readVersionNumber_26
set_option maxHeartbeats 1000000 in
set_option maxRecDepth 100000 in
theorem mt_X1_readParent (l : Launch) (G : gG) (h : Nat → Nat) (sz : Nat) (rd : oS) (w : oS) (len : Nat) (a0 : Nat) (nv : Nat) (hlen : rd.1 1 = nI len) (ha0 : rd.1 2 = nI a0) (hnv : w.1 0 = nI nv) (hl240 : len ≤ 240) (hAn : a0 ≤ len) (hnv24 : nv ≤ 24) : Met l yX1_readParent wsX1_readParent ({ frames := 2, cells := 0, slots := 0, locals := 43 }) (preW G (rv G h rd w) sz [.ref (h 0)]) (va_Qi (fun (r : Int32) (v : oS × oS) => ∃ q b, v = (q, w) ∧ rel [2, 3, 4, 5] [] rd q ∧ q.1 2 = nI b ∧ b ≤ len) (fun v t => PP G (rv G h v.1 v.2) t.heap) (va_A (rv G h rd w) sz)) 0 0 (va_A (rv G h rd w) sz) := by
  refine Met.ofW (cc := cX1_readParent) (maxL := 2) (ret := (some .int)) (by decide) rfl ?_
  intro p e s m args below meth c s₁ B hml hv
  obtain ⟨ha, hsz, hP, hK, hN, hD0⟩ := hv
  subst ha
  have hx := B.exec
  have hb := B.bytes
  have hr := B.returns
  have hts := atoms_spec (ws := wsX1_readParent) B.pre
  have hown : s.vm.findClass RX1 = some m.cls := findClass_of_methodNamed B.named
  have hlocks := B.notSynchronized
  subst hsz
  have hD := hD0.self (sz := s.heap.size)
  generalize hAe : va_A (rv G h rd w) s.heap.size = A at hD ⊢
  have hA : ∀ q : Nat, s.heap.size ≤ q → A q := fun q h => by rw [← hAe]; exact Or.inr h
  clear hAe hD0
  have hS : va_S A s.heap s.heap [] := va_S.rf
  have hiX1 : ∀ w ∈ wsX10, w ∈ wsX1_readParent := by decide +kernel
  have k44 := hts (.fieldLink RX1 44 "WovenHistory$Reader" "woven" "LWovenHistory$Weave;") (List.mem_of_getElem? (i := 1) rfl)
  have k22 := hts (.fieldLink RX1 22 "WovenHistory$Reader" "numberAt" "I") (List.mem_of_getElem? (i := 2) rfl)
  have hl := lv_entry ([.ref (h 0)]) (n := 2) (Nat.le_of_ble_eq_true rfl)
  rw [lg_entry_eq]
  generalize (lg_sl ([.ref (h 0)]) ++ List.replicate (2 - (lg_sl ([.ref (h 0)])).length) Slot.unset).toArray = ls at hl ⊢
  have hl : lv_has ls 2 [(0, .ref (h 0))] := hl
  refine lv_aload_n hx hb dX1_readParent_0 rfl (lv_at hl 0 rfl) ?_
  refine cXi (As := []) (rest := []) (S := oS × oS) (wa := rv G h rd w) (w1 := fun v => rv G h v.1 v.2) ⟨hx, hb, hml, hown, hts⟩ (mt_X1_readNumber l G h _ rd w len a0 (hlen) (ha0) (by first | assumption | omega) (by first | assumption | omega)) (cwV 0 hts gX1_readParent_X1_readNumber rfl rfl rfl (by decide +kernel) ⟨Nat.le_of_ble_eq_true rfl, Nat.le_of_ble_eq_true rfl⟩) hK hN hP hD hS hA (fun _ => rfl) 0 1 rfl rfl rfl hl.1 rfl (Nat.le_of_ble_eq_true rfl) ⟨Nat.zero_le _, Nat.zero_le _⟩ dX1_readParent_1 (fun r1 u1 H locs hw1 hP hD hS => ?_)
  obtain ⟨q1, b1, rfl, hR1, hb1, hbn1⟩ := hw1
  have hP : PP G (rv G h q1 w) H := hP
  have hD : va_D A (rv G h q1 w) := hD
  refine lv_istore_n (lv' := [(1, .int r1), (0, .ref (h 0))]) hx hb dX1_readParent_4 rfl hl (by decide) rfl (fun ls hl => ?_)
  refine lv_iload_n hx hb dX1_readParent_5 rfl (lv_at hl 0 rfl) ?_
  refine lv_bipush (v := nI 99) hx hb dX1_readParent_6 (by decide) ?_
  refine lv_icmp_eq (tgt := 31) hx hb dX1_readParent_8 (by decide) (fun c8 => ?_) (fun c8 => ?_)
  · skip
    refine lv_iload_n hx hb dX1_readParent_31 rfl (lv_at hl 0 rfl) ?_
    refine lv_bipush (v := nI 99) hx hb dX1_readParent_32 (by decide) ?_
    refine lv_icmp_ne (tgt := 41) hx hb dX1_readParent_34 (by decide) (fun c34 => ?_) (fun c34 => ?_)
    · skip
      refine lv_iload_n hx hb dX1_readParent_41 rfl (lv_at hl 0 rfl) ?_
      exact W.iret (v := r1) hx hb hr (fun t ht hW => ⟨⟨r1, (q1, w), rfl, ⟨_, b1, rfl, by repeat (first | exact rel.refl _ | exact rel.mono (by assumption) (by decide) (by decide) | refine rel.I (by decide) ?_ | refine rel.A (by decide) ?_ | refine rel.trans ?_ (rel.mono (by assumption) (by decide) (by decide))), hb1, by omega⟩, show PP G (rv G h q1 w) t.heap by rw [ht]; exact hP⟩, hS.F ht⟩) hS.2.2 dX1_readParent_42
    · skip
      refine lv_iconst (v := (-1 : Int32)) hx hb dX1_readParent_37 (by decide) ?_
      refine lv_goto (tgt := 42) hx hb dX1_readParent_38 (by decide) ?_
      exact W.iret (v := (-1 : Int32)) hx hb hr (fun t ht hW => ⟨⟨(-1 : Int32), (q1, w), rfl, ⟨_, b1, rfl, by repeat (first | exact rel.refl _ | exact rel.mono (by assumption) (by decide) (by decide) | refine rel.I (by decide) ?_ | refine rel.A (by decide) ?_ | refine rel.trans ?_ (rel.mono (by assumption) (by decide) (by decide))), hb1, by omega⟩, show PP G (rv G h q1 w) t.heap by rw [ht]; exact hP⟩, hS.F ht⟩) hS.2.2 dX1_readParent_42
  · skip
    refine lv_aload_n hx hb dX1_readParent_11 rfl (lv_at hl 1 rfl) ?_
    refine va_get (D := gD G) (ci := 1) (v := .ref (h 10)) (C := RX1) (T := TX1) (N := 10) hx hb hts hiX1 hown hK hP 0 rfl rfl 9 (by decide) k44 (fun _ h9 => h9) rfl dX1_readParent_12 ?_
    refine lv_iload_n hx hb dX1_readParent_15 rfl (lv_at hl 0 rfl) ?_
    refine cRi (w := wv G (fun k => h (10 + k)) w) (As := [.int r1]) (rest := []) ⟨hx, hb, hml, hown, hts⟩ (mt_X3_hasVersion l G (fun k => h (10 + k)) w nv r1 (hnv) (by first | assumption | omega)) (cwV 1 hts gX1_readParent_X3_hasVersion rfl rfl rfl (by decide +kernel) ⟨Nat.le_of_ble_eq_true rfl, Nat.le_of_ble_eq_true rfl⟩) hK hN (hP.sub [4, 5, 6, 7, 8, 9, 10, 11] rfl) 0 3 rfl rfl rfl hl.1 rfl (Nat.le_of_ble_eq_true rfl) ⟨Nat.zero_le _, Nat.zero_le _⟩ dX1_readParent_16 (fun r16 hw16 => ?_)
    rcases hw16 with ⟨rfl, j16, hj16, ej16⟩ | ⟨rfl, hn16⟩
    · skip
      refine lv_if_ne (tgt := 31) hx hb dX1_readParent_19 (by decide) (fun _ => ?_) (fun c9 => absurd c9 (by decide))
      refine lv_iload_n hx hb dX1_readParent_31 rfl (lv_at hl 0 rfl) ?_
      refine lv_bipush (v := nI 99) hx hb dX1_readParent_32 (by decide) ?_
      refine lv_icmp_ne (tgt := 41) hx hb dX1_readParent_34 (by decide) (fun c34 => ?_) (fun c34 => ?_)
      · skip
        refine lv_iload_n hx hb dX1_readParent_41 rfl (lv_at hl 0 rfl) ?_
        exact W.iret (v := r1) hx hb hr (fun t ht hW => ⟨⟨r1, (q1, w), rfl, ⟨_, b1, rfl, by repeat (first | exact rel.refl _ | exact rel.mono (by assumption) (by decide) (by decide) | refine rel.I (by decide) ?_ | refine rel.A (by decide) ?_ | refine rel.trans ?_ (rel.mono (by assumption) (by decide) (by decide))), hb1, by omega⟩, show PP G (rv G h q1 w) t.heap by rw [ht]; exact hP⟩, hS.F ht⟩) hS.2.2 dX1_readParent_42
      · skip
        refine lv_iconst (v := (-1 : Int32)) hx hb dX1_readParent_37 (by decide) ?_
        refine lv_goto (tgt := 42) hx hb dX1_readParent_38 (by decide) ?_
        exact W.iret (v := (-1 : Int32)) hx hb hr (fun t ht hW => ⟨⟨(-1 : Int32), (q1, w), rfl, ⟨_, b1, rfl, by repeat (first | exact rel.refl _ | exact rel.mono (by assumption) (by decide) (by decide) | refine rel.I (by decide) ?_ | refine rel.A (by decide) ?_ | refine rel.trans ?_ (rel.mono (by assumption) (by decide) (by decide))), hb1, by omega⟩, show PP G (rv G h q1 w) t.heap by rw [ht]; exact hP⟩, hS.F ht⟩) hS.2.2 dX1_readParent_42
    · skip
      refine lv_if_ne (tgt := 31) hx hb dX1_readParent_19 (by decide) (fun c9 => absurd (by decide) c9) (fun _ => ?_)
      refine lv_aload_n hx hb dX1_readParent_22 rfl (lv_at hl 1 rfl) ?_
      refine lv_iconst (v := nI 2) hx hb dX1_readParent_23 (by decide) ?_
      refine lv_aload_n hx hb dX1_readParent_24 rfl (lv_at hl 1 rfl) ?_
      refine va_get (D := gD G) (ci := 1) (v := .int (q1.1 3)) (C := RX1) (T := TX1) (N := 10) hx hb hts hiX1 hown hK hP 0 rfl rfl 3 (by decide) k22 (fun _ h9 => h9) rfl dX1_readParent_25 ?_
      refine cXv (As := [.int (nI 2), .int (q1.1 3)]) (rest := []) (S := oS × oS) (wa := rv G h q1 w) (w1 := fun v => rv G h v.1 v.2) ⟨hx, hb, hml, hown, hts⟩ (mt_X1_fail l G h _ q1 w (nI 2) (q1.1 3)) (cwV 2 hts gX1_readParent_X1_fail rfl rfl rfl (by decide +kernel) ⟨Nat.le_of_ble_eq_true rfl, Nat.le_of_ble_eq_true rfl⟩) hK hN hP hD hS hA (fun _ => rfl) 0 1 rfl rfl rfl hl.1 rfl (Nat.le_of_ble_eq_true rfl) ⟨Nat.zero_le _, Nat.zero_le _⟩ dX1_readParent_28 (fun u28 H locs hw28 hP hD hS => ?_)
      obtain ⟨q28, rfl, hR28⟩ := hw28
      have hP : PP G (rv G h q28 w) H := hP
      have hD : va_D A (rv G h q28 w) := hD
      refine lv_iload_n hx hb dX1_readParent_31 rfl (lv_at hl 0 rfl) ?_
      refine lv_bipush (v := nI 99) hx hb dX1_readParent_32 (by decide) ?_
      refine lv_icmp_ne (tgt := 41) hx hb dX1_readParent_34 (by decide) (fun c34 => ?_) (fun c34 => ?_)
      · skip
        refine lv_iload_n hx hb dX1_readParent_41 rfl (lv_at hl 0 rfl) ?_
        exact W.iret (v := r1) hx hb hr (fun t ht hW => ⟨⟨r1, (q28, w), rfl, ⟨_, b1, rfl, by repeat (first | exact rel.refl _ | exact rel.mono (by assumption) (by decide) (by decide) | refine rel.I (by decide) ?_ | refine rel.A (by decide) ?_ | refine rel.trans ?_ (rel.mono (by assumption) (by decide) (by decide))), (hR28.1 2 (by decide)).trans (hb1), by omega⟩, show PP G (rv G h q28 w) t.heap by rw [ht]; exact hP⟩, hS.F ht⟩) hS.2.2 dX1_readParent_42
      · skip
        refine lv_iconst (v := (-1 : Int32)) hx hb dX1_readParent_37 (by decide) ?_
        refine lv_goto (tgt := 42) hx hb dX1_readParent_38 (by decide) ?_
        exact W.iret (v := (-1 : Int32)) hx hb hr (fun t ht hW => ⟨⟨(-1 : Int32), (q28, w), rfl, ⟨_, b1, rfl, by repeat (first | exact rel.refl _ | exact rel.mono (by assumption) (by decide) (by decide) | refine rel.I (by decide) ?_ | refine rel.A (by decide) ?_ | refine rel.trans ?_ (rel.mono (by assumption) (by decide) (by decide))), (hR28.1 2 (by decide)).trans (hb1), by omega⟩, show PP G (rv G h q28 w) t.heap by rw [ht]; exact hP⟩, hS.F ht⟩) hS.2.2 dX1_readParent_42
set_option maxHeartbeats 1000000 in
set_option maxRecDepth 100000 in
theorem mt_X1_readOthers (l : Launch) (G : gG) (h : Nat → Nat) (sz : Nat) (rd : oS) (w : oS) (len : Nat) (a0 : Nat) (nv : Nat) (mk : Int32) (t0 : Int32) (hlen : rd.1 1 = nI len) (ha0 : rd.1 2 = nI a0) (hnv : w.1 0 = nI nv) (hl240 : len ≤ 240) (hAn : a0 ≤ len) (hnv24 : nv ≤ 24) (hxm : ¬ mk = -1) : Met l yX1_readOthers wsX1_readOthers ({ frames := 3, cells := 0, slots := 0, locals := 64 }) (preW G (rv G h rd w) sz [.ref (h 0), .int mk, .int t0]) (va_Qi (fun (r : Int32) (v : oS × oS) => ∃ q b, v = (q, w) ∧ rel [2, 3, 4, 5] [] rd q ∧ q.1 2 = nI b ∧ b ≤ len) (fun v t => PP G (rv G h v.1 v.2) t.heap) (va_A (rv G h rd w) sz)) 0 0 (va_A (rv G h rd w) sz) := by
  refine Met.ofW (cc := cX1_readOthers) (maxL := 6) (ret := (some .int)) (by decide) rfl ?_
  intro p e s m args below meth c s₁ B hml hv
  obtain ⟨ha, hsz, hP, hK, hN, hD0⟩ := hv
  subst ha
  have hx := B.exec
  have hb := B.bytes
  have hr := B.returns
  have hts := atoms_spec (ws := wsX1_readOthers) B.pre
  have hown : s.vm.findClass RX1 = some m.cls := findClass_of_methodNamed B.named
  have hlocks := B.notSynchronized
  subst hsz
  have hD := hD0.self (sz := s.heap.size)
  generalize hAe : va_A (rv G h rd w) s.heap.size = A at hD ⊢
  have hA : ∀ q : Nat, s.heap.size ≤ q → A q := fun q h => by rw [← hAe]; exact Or.inr h
  clear hAe hD0
  have hS : va_S A s.heap s.heap [] := va_S.rf
  have hiX1 : ∀ w ∈ wsX10, w ∈ wsX1_readOthers := by decide +kernel
  have k19 := hts (.fieldLink RX1 19 "WovenHistory$Reader" "at" "I") (List.mem_of_getElem? (i := 1) rfl)
  have k22 := hts (.fieldLink RX1 22 "WovenHistory$Reader" "numberAt" "I") (List.mem_of_getElem? (i := 2) rfl)
  have hl := lv_entry ([.ref (h 0), .int mk, .int t0]) (n := 6) (Nat.le_of_ble_eq_true rfl)
  rw [lg_entry_eq]
  generalize (lg_sl ([.ref (h 0), .int mk, .int t0]) ++ List.replicate (6 - (lg_sl ([.ref (h 0), .int mk, .int t0])).length) Slot.unset).toArray = ls at hl ⊢
  have hl : lv_has ls 6 [(0, .ref (h 0)), (1, .int mk), (2, .int t0)] := hl
  refine lv_iconst (v := nI 0) hx hb dX1_readOthers_0 (by decide) ?_
  refine lv_istore_n (lv' := [(3, .int (nI 0)), (0, .ref (h 0)), (1, .int mk), (2, .int t0)]) hx hb dX1_readOthers_1 rfl hl (by decide) rfl (fun ls hl => ?_)
  refine lv_iconst (v := nI 0) hx hb dX1_readOthers_2 (by decide) ?_
  refine lv_istore (lv' := [(4, .int (nI 0)), (3, .int (nI 0)), (0, .ref (h 0)), (1, .int mk), (2, .int t0)]) hx hb dX1_readOthers_3 hl (by decide) rfl (fun ls hl => ?_)
  have LP5 : ∀ (n5m : Nat), ∀ (k : Nat) (q : oS) (b : Nat) (x : Int32) (hk : k ≤ 25) (hR : rel [2, 3, 4, 5] [] rd q) (hbq : q.1 2 = nI b) (hbn : b ≤ len), (25 - k < n5m) → ∀ (H : Heap) (locs : List Loc) (ls : Array Slot), PP G (rv G h q w) H → va_D A (rv G h q w) → va_S A s.heap H locs → lv_has ls 6 [(0, .ref (h 0)), (1, .int mk), (2, .int t0), (3, .int x), (4, .int (nI k))] → W p l e (headSpec wsX1_readOthers ({ frames := 3, cells := 0, slots := 0, locals := 64 })).room s m ([.ref (h 0), .int mk, .int t0] : List Value).toArray below meth c H locs 0 0 (MQ below (va_Qi (fun (r : Int32) (v : oS × oS) => ∃ q b, v = (q, w) ∧ rel [2, 3, 4, 5] [] rd q ∧ q.1 2 = nI b ∧ b ≤ len) (fun v t => PP G (rv G h v.1 v.2) t.heap) A) ([.ref (h 0), .int mk, .int t0] : List Value).toArray s 0 0 A) (F0 m 5 ls []) := by
    intro n5m
    induction n5m with
    | zero => intro k q b x hk hR hbq hbn hmu H locs ls hP hD hS hl; exact absurd hmu (Nat.not_lt_zero _)
    | succ n5m ih5 =>
      intro k q b x hk hR hbq hbn hmu H locs ls hP hD hS hl
      refine lv_iload hx hb dX1_readOthers_5 (lv_at hl 4 rfl) ?_
      refine lv_bipush (v := nI 24) hx hb dX1_readOthers_7 (by decide) ?_
      refine lv_icmp_gt (tgt := 70) hx hb dX1_readOthers_9 (by decide) (fun c9 => ?_) (fun c9 => ?_)
      · skip
        have n9 : 24 < k := (nI_ltI (a := 24) (b := k) (by omega) (by omega)).mp c9
        refine lv_iload_n hx hb dX1_readOthers_70 rfl (lv_at hl 3 rfl) ?_
        exact W.iret (v := x) hx hb hr (fun t ht hW => ⟨⟨x, (q, w), rfl, ⟨_, b, rfl, by repeat (first | exact rel.refl _ | exact rel.mono (by assumption) (by decide) (by decide) | refine rel.I (by decide) ?_ | refine rel.A (by decide) ?_ | refine rel.trans ?_ (rel.mono (by assumption) (by decide) (by decide))), hbq, by omega⟩, show PP G (rv G h q w) t.heap by rw [ht]; exact hP⟩, hS.F ht⟩) hS.2.2 dX1_readOthers_71
      · skip
        have n9 : ¬ (24 < k) := fun q9 => c9 ((nI_ltI (a := 24) (b := k) (by omega) (by omega)).mpr q9)
        refine lv_aload_n hx hb dX1_readOthers_12 rfl (lv_at hl 0 rfl) ?_
        refine cXi (As := []) (rest := []) (S := oS × oS) (wa := rv G h q w) (w1 := fun v => rv G h v.1 v.2) ⟨hx, hb, hml, hown, hts⟩ (mt_X1_nextSign l G h _ q w len b ((hR.1 1 (by decide)).trans hlen) (hbq) (by first | assumption | omega) (by first | assumption | omega)) (cwV 0 hts gX1_readOthers_X1_nextSign rfl rfl rfl (by decide +kernel) ⟨Nat.le_of_ble_eq_true rfl, Nat.le_of_ble_eq_true rfl⟩) hK hN hP hD hS hA (fun _ => rfl) 0 1 rfl rfl rfl hl.1 rfl (Nat.le_of_ble_eq_true rfl) ⟨Nat.zero_le _, Nat.zero_le _⟩ dX1_readOthers_13 (fun r13 u13 H locs hw13 hP hD hS => ?_)
        rcases hw13 with ⟨b13, rfl, hab13, hbn13, rfl⟩ | ⟨b13, rfl, hab13, hbn13, rfl⟩
        · skip
          have hP : PP G (rv G h (oI q 2 (nI b13)) w) H := hP
          have hD : va_D A (rv G h (oI q 2 (nI b13)) w) := hD
          refine lv_iload_n hx hb dX1_readOthers_16 rfl (lv_at hl 1 rfl) ?_
          refine lv_icmp_ne (tgt := 70) hx hb dX1_readOthers_17 (by decide) (fun c17 => ?_) (fun c17 => ?_)
          · skip
            refine lv_iload_n hx hb dX1_readOthers_70 rfl (lv_at hl 3 rfl) ?_
            exact W.iret (v := x) hx hb hr (fun t ht hW => ⟨⟨x, (oI q 2 (nI b13), w), rfl, ⟨_, b13, rfl, by repeat (first | exact rel.refl _ | exact rel.mono (by assumption) (by decide) (by decide) | refine rel.I (by decide) ?_ | refine rel.A (by decide) ?_ | refine rel.trans ?_ (rel.mono (by assumption) (by decide) (by decide))), rfl, by omega⟩, show PP G (rv G h (oI q 2 (nI b13)) w) t.heap by rw [ht]; exact hP⟩, hS.F ht⟩) hS.2.2 dX1_readOthers_71
          · skip
            exact absurd c17.symm hxm
        · skip
          have hP : PP G (rv G h (oI q 2 (nI b13)) w) H := hP
          have hD : va_D A (rv G h (oI q 2 (nI b13)) w) := hD
          refine lv_iload_n hx hb dX1_readOthers_16 rfl (lv_at hl 1 rfl) ?_
          refine lv_icmp_ne (tgt := 70) hx hb dX1_readOthers_17 (by decide) (fun c17 => ?_) (fun c17 => ?_)
          · skip
            refine lv_iload_n hx hb dX1_readOthers_70 rfl (lv_at hl 3 rfl) ?_
            exact W.iret (v := x) hx hb hr (fun t ht hW => ⟨⟨x, (oI q 2 (nI b13), w), rfl, ⟨_, b13, rfl, by repeat (first | exact rel.refl _ | exact rel.mono (by assumption) (by decide) (by decide) | refine rel.I (by decide) ?_ | refine rel.A (by decide) ?_ | refine rel.trans ?_ (rel.mono (by assumption) (by decide) (by decide))), rfl, by omega⟩, show PP G (rv G h (oI q 2 (nI b13)) w) t.heap by rw [ht]; exact hP⟩, hS.F ht⟩) hS.2.2 dX1_readOthers_71
          · skip
            refine lv_aload_n hx hb dX1_readOthers_20 rfl (lv_at hl 0 rfl) ?_
            refine lv_dup hx hb dX1_readOthers_21 rfl ?_
            refine va_get (D := gD G) (ci := 1) (v := .int (nI (b13))) (C := RX1) (T := TX1) (N := 10) hx hb hts hiX1 hown hK hP 0 rfl rfl 2 (by decide) k19 (fun _ h9 => h9) rfl dX1_readOthers_22 ?_
            refine lv_iconst (v := nI 1) hx hb dX1_readOthers_25 (by decide) ?_
            refine lv_iadd hx hb dX1_readOthers_26 ?_
            refine topE (y := nI (b13 + 1)) (nI_add b13 1) ?_
            refine va_put (D := gD G) (ci := 1) (v := .int (nI (b13 + 1))) (ty := .int) (C := RX1) (T := TX1) (N := 10) hx hb hts hiX1 tyX1 tyX1_ok nmX1 hown hK hP hD hS 0 rfl rfl 2 (by decide) k19 (fun _ h9 => h9) rfl (by decide +kernel) (rfl) (rfl) (Nat.le_of_ble_eq_true rfl) dX1_readOthers_27 (fun H locs hP hD hS => ?_)
            have hP : PP G (rv G h (oI (oI q 2 (nI b13)) 2 (nI (b13 + 1))) w) H := hP
            have hD : va_D A (rv G h (oI (oI q 2 (nI b13)) 2 (nI (b13 + 1))) w) := hD
            refine lv_aload_n hx hb dX1_readOthers_30 rfl (lv_at hl 0 rfl) ?_
            refine cXi (As := []) (rest := []) (S := oS × oS) (wa := rv G h (oI (oI q 2 (nI b13)) 2 (nI (b13 + 1))) w) (w1 := fun v => rv G h v.1 v.2) ⟨hx, hb, hml, hown, hts⟩ (mt_X1_readVersionNumber l G h _ (oI (oI q 2 (nI b13)) 2 (nI (b13 + 1))) w len (b13 + 1) nv ((hR.1 1 (by decide)).trans hlen) (rfl) (hnv) (by first | assumption | omega) (by first | assumption | omega) (by first | assumption | omega)) (cwV 0 hts gX1_readOthers_X1_readVersionNumber rfl rfl rfl (by decide +kernel) ⟨Nat.le_of_ble_eq_true rfl, Nat.le_of_ble_eq_true rfl⟩) hK hN hP hD hS hA (fun _ => rfl) 0 1 rfl rfl rfl hl.1 rfl (Nat.le_of_ble_eq_true rfl) ⟨Nat.zero_le _, Nat.zero_le _⟩ dX1_readOthers_31 (fun r31 u31 H locs hw31 hP hD hS => ?_)
            obtain ⟨q31, b31, rfl, hR31, hb31, hbn31⟩ := hw31
            have hP : PP G (rv G h q31 w) H := hP
            have hD : va_D A (rv G h q31 w) := hD
            refine lv_istore (lv' := [(5, .int r31), (0, .ref (h 0)), (1, .int mk), (2, .int t0), (3, .int x), (4, .int (nI k))]) hx hb dX1_readOthers_34 hl (by decide) rfl (fun ls hl => ?_)
            refine lv_iload_n hx hb dX1_readOthers_36 rfl (lv_at hl 3 rfl) ?_
            refine lv_iload_n hx hb dX1_readOthers_37 rfl (lv_at hl 4 rfl) ?_
            refine lv_ior hx hb dX1_readOthers_38 ?_
            refine lv_iload hx hb dX1_readOthers_39 (lv_at hl 0 rfl) ?_
            refine cSi (As := [.int (t0 ||| x), .int r31]) (rest := []) ⟨hx, hb, hml, hown, hts⟩ (mt_X3_holds l (t0 ||| x) r31) (va_cwS 2 hts gX1_readOthers_X3_holds rfl rfl rfl (by decide +kernel) ⟨Nat.le_of_ble_eq_true rfl, Nat.le_of_ble_eq_true rfl⟩) rfl hl.1 rfl (Nat.le_of_ble_eq_true rfl) ⟨Nat.zero_le _, Nat.zero_le _⟩ dX1_readOthers_41 (fun r41 hw41 => ?_)
            rcases hw41 with rfl | rfl
            · skip
              refine lv_if_eq (tgt := 56) hx hb dX1_readOthers_44 (by decide) (fun c9 => absurd c9 (by decide)) (fun _ => ?_)
              refine lv_aload_n hx hb dX1_readOthers_47 rfl (lv_at hl 1 rfl) ?_
              refine lv_iconst (v := nI 4) hx hb dX1_readOthers_48 (by decide) ?_
              refine lv_aload_n hx hb dX1_readOthers_49 rfl (lv_at hl 1 rfl) ?_
              refine va_get (D := gD G) (ci := 1) (v := .int (q31.1 3)) (C := RX1) (T := TX1) (N := 10) hx hb hts hiX1 hown hK hP 0 rfl rfl 3 (by decide) k22 (fun _ h9 => h9) rfl dX1_readOthers_50 ?_
              refine cXv (As := [.int (nI 4), .int (q31.1 3)]) (rest := []) (S := oS × oS) (wa := rv G h q31 w) (w1 := fun v => rv G h v.1 v.2) ⟨hx, hb, hml, hown, hts⟩ (mt_X1_fail l G h _ q31 w (nI 4) (q31.1 3)) (cwV 2 hts gX1_readOthers_X1_fail rfl rfl rfl (by decide +kernel) ⟨Nat.le_of_ble_eq_true rfl, Nat.le_of_ble_eq_true rfl⟩) hK hN hP hD hS hA (fun _ => rfl) 0 1 rfl rfl rfl hl.1 rfl (Nat.le_of_ble_eq_true rfl) ⟨Nat.zero_le _, Nat.zero_le _⟩ dX1_readOthers_53 (fun u53 H locs hw53 hP hD hS => ?_)
              obtain ⟨q53, rfl, hR53⟩ := hw53
              have hP : PP G (rv G h q53 w) H := hP
              have hD : va_D A (rv G h q53 w) := hD
              refine lv_iload_n hx hb dX1_readOthers_56 rfl (lv_at hl 4 rfl) ?_
              refine lv_iload hx hb dX1_readOthers_57 (lv_at hl 0 rfl) ?_
              refine cSi (As := [.int r31]) (rest := [.int x]) ⟨hx, hb, hml, hown, hts⟩ (mt_X3_only l r31) (va_cwS 1 hts gX1_readOthers_X3_only rfl rfl rfl (by decide +kernel) ⟨Nat.le_of_ble_eq_true rfl, Nat.le_of_ble_eq_true rfl⟩) rfl hl.1 rfl (Nat.le_of_ble_eq_true rfl) ⟨Nat.zero_le _, Nat.zero_le _⟩ dX1_readOthers_59 (fun r59 hw59 => ?_)
              refine lv_ior hx hb dX1_readOthers_62 ?_
              refine lv_istore_n (lv' := [(3, .int (x ||| r59)), (5, .int r31), (0, .ref (h 0)), (1, .int mk), (2, .int t0), (4, .int (nI k))]) hx hb dX1_readOthers_63 rfl hl (by decide) rfl (fun ls hl => ?_)
              refine lv_iinc (v := nI (k + 1)) (lv' := [(4, .int (nI (k + 1))), (3, .int (x ||| r59)), (5, .int r31), (0, .ref (h 0)), (1, .int mk), (2, .int t0)]) hx hb dX1_readOthers_64 hl (k := 5) rfl (nI_1 k) (by decide) rfl (fun ls hl => ?_)
              refine lv_goto (tgt := 5) hx hb dX1_readOthers_67 (by decide) ?_
              exact ih5 (k + 1) q53 b31 (x ||| r59) (by first | assumption | omega) (by repeat (first | exact rel.refl _ | exact rel.mono (by assumption) (by decide) (by decide) | refine rel.I (by decide) ?_ | refine rel.A (by decide) ?_ | refine rel.trans ?_ (rel.mono (by assumption) (by decide) (by decide)))) ((hR53.1 2 (by decide)).trans (hb31)) (by first | assumption | omega) (by omega) _ _ ls hP hD hS (lv_sub hl [3, 4, 5, 1, 0] rfl)
            · skip
              refine lv_if_eq (tgt := 56) hx hb dX1_readOthers_44 (by decide) (fun _ => ?_) (fun c9 => absurd (by decide) c9)
              refine lv_iload_n hx hb dX1_readOthers_56 rfl (lv_at hl 4 rfl) ?_
              refine lv_iload hx hb dX1_readOthers_57 (lv_at hl 0 rfl) ?_
              refine cSi (As := [.int r31]) (rest := [.int x]) ⟨hx, hb, hml, hown, hts⟩ (mt_X3_only l r31) (va_cwS 1 hts gX1_readOthers_X3_only rfl rfl rfl (by decide +kernel) ⟨Nat.le_of_ble_eq_true rfl, Nat.le_of_ble_eq_true rfl⟩) rfl hl.1 rfl (Nat.le_of_ble_eq_true rfl) ⟨Nat.zero_le _, Nat.zero_le _⟩ dX1_readOthers_59 (fun r59 hw59 => ?_)
              refine lv_ior hx hb dX1_readOthers_62 ?_
              refine lv_istore_n (lv' := [(3, .int (x ||| r59)), (5, .int r31), (0, .ref (h 0)), (1, .int mk), (2, .int t0), (4, .int (nI k))]) hx hb dX1_readOthers_63 rfl hl (by decide) rfl (fun ls hl => ?_)
              refine lv_iinc (v := nI (k + 1)) (lv' := [(4, .int (nI (k + 1))), (3, .int (x ||| r59)), (5, .int r31), (0, .ref (h 0)), (1, .int mk), (2, .int t0)]) hx hb dX1_readOthers_64 hl (k := 5) rfl (nI_1 k) (by decide) rfl (fun ls hl => ?_)
              refine lv_goto (tgt := 5) hx hb dX1_readOthers_67 (by decide) ?_
              exact ih5 (k + 1) q31 b31 (x ||| r59) (by first | assumption | omega) (by repeat (first | exact rel.refl _ | exact rel.mono (by assumption) (by decide) (by decide) | refine rel.I (by decide) ?_ | refine rel.A (by decide) ?_ | refine rel.trans ?_ (rel.mono (by assumption) (by decide) (by decide)))) (hb31) (by first | assumption | omega) (by omega) _ _ ls hP hD hS (lv_sub hl [3, 4, 5, 1, 0] rfl)
  exact LP5 (25 - 0 + 1) 0 rd a0 (nI 0) (by first | assumption | omega) (by repeat (first | exact rel.refl _ | exact rel.mono (by assumption) (by decide) (by decide) | refine rel.I (by decide) ?_ | refine rel.A (by decide) ?_ | refine rel.trans ?_ (rel.mono (by assumption) (by decide) (by decide)))) (ha0) (by first | assumption | omega) (Nat.lt_succ_self _) _ _ ls hP hD hS (lv_sub hl [2, 3, 4, 1, 0] rfl)
set_option maxHeartbeats 1000000 in
set_option maxRecDepth 100000 in
theorem mt_X1_readOneVersion (l : Launch) (G : gG) (h : Nat → Nat) (sz : Nat) (rd : oS) (w : oS) (len : Nat) (a0 : Nat) (nv : Nat) (hlen : rd.1 1 = nI len) (ha0 : rd.1 2 = nI a0) (hnv : w.1 0 = nI nv) (hl240 : len ≤ 240) (hAl : a0 < len) (hnv24 : nv ≤ 24) : Met l yX1_readOneVersion wsX1_readOneVersion ({ frames := 4, cells := 0, slots := 0, locals := 89 }) (preW G (rv G h rd w) sz [.ref (h 0)]) (va_Qv (fun (v : oS × oS) => ∃ q p b n, v = (q, p) ∧ rel [2, 3, 4, 5] [] rd q ∧ q.1 2 = nI b ∧ b ≤ len ∧ rel [0] [1, 2, 3, 4] w p ∧ p.1 0 = nI n ∧ n ≤ 24) (fun v t => PP G (rv G h v.1 v.2) t.heap) (va_A (rv G h rd w) sz)) 0 0 (va_A (rv G h rd w) sz) := by
  refine Met.ofW (cc := cX1_readOneVersion) (maxL := 4) (ret := none) (by decide) rfl ?_
  intro p e s m args below meth c s₁ B hml hv
  obtain ⟨ha, hsz, hP, hK, hN, hD0⟩ := hv
  subst ha
  have hx := B.exec
  have hb := B.bytes
  have hr := B.returns
  have hts := atoms_spec (ws := wsX1_readOneVersion) B.pre
  have hown : s.vm.findClass RX1 = some m.cls := findClass_of_methodNamed B.named
  have hlocks := B.notSynchronized
  subst hsz
  have hD := hD0.self (sz := s.heap.size)
  generalize hAe : va_A (rv G h rd w) s.heap.size = A at hD ⊢
  have hA : ∀ q : Nat, s.heap.size ≤ q → A q := fun q h => by rw [← hAe]; exact Or.inr h
  clear hAe hD0
  have hS : va_S A s.heap s.heap [] := va_S.rf
  have hiX1 : ∀ w ∈ wsX10, w ∈ wsX1_readOneVersion := by decide +kernel
  have k44 := hts (.fieldLink RX1 44 "WovenHistory$Reader" "woven" "LWovenHistory$Weave;") (List.mem_of_getElem? (i := 1) rfl)
  have hiX3 : ∀ w ∈ wsX30, w ∈ wsX1_readOneVersion := by decide +kernel
  have k76 : (Cond.fieldLinkNest "WovenHistory$Reader" 76 "WovenHistory$Weave" "versions" "I" "WovenHistory").before _ s = true := va_Nw.use (A := ([.ref (h 0)] : List Value).toArray) rfl (hN.1 ("WovenHistory$Reader", 76, "WovenHistory$Weave", "versions", "I") (List.mem_of_getElem? (i := 15) rfl))
  have k19 := hts (.fieldLink RX1 19 "WovenHistory$Reader" "at" "I") (List.mem_of_getElem? (i := 2) rfl)
  have k25 := hts (.fieldLink RX1 25 "WovenHistory$Reader" "faultNumber" "I") (List.mem_of_getElem? (i := 3) rfl)
  have hl := lv_entry ([.ref (h 0)]) (n := 4) (Nat.le_of_ble_eq_true rfl)
  rw [lg_entry_eq]
  generalize (lg_sl ([.ref (h 0)]) ++ List.replicate (4 - (lg_sl ([.ref (h 0)])).length) Slot.unset).toArray = ls at hl ⊢
  have hl : lv_has ls 4 [(0, .ref (h 0))] := hl
  refine lv_aload_n hx hb dX1_readOneVersion_0 rfl (lv_at hl 0 rfl) ?_
  refine va_get (D := gD G) (ci := 1) (v := .ref (h 10)) (C := RX1) (T := TX1) (N := 10) hx hb hts hiX1 hown hK hP 0 rfl rfl 9 (by decide) k44 (fun _ h9 => h9) rfl dX1_readOneVersion_1 ?_
  refine va_getN (D := gD G) (ci := 3) (v := .int (w.1 0)) (C := RX3) (T := TX3) (N := 9) hx hb hts hiX3 hown hK hP 4 rfl rfl 0 (by decide) k76 (fun _ h9 => h9) rfl dX1_readOneVersion_4 ?_
  refine topE hnv ?_
  refine lv_bipush (v := nI 24) hx hb dX1_readOneVersion_7 (by decide) ?_
  refine lv_icmp_lt (tgt := 22) hx hb dX1_readOneVersion_9 (by decide) (fun c9 => ?_) (fun c9 => ?_)
  · skip
    have n9 : nv < 24 := (nI_ltI (a := nv) (b := 24) (by omega) (by omega)).mp c9
    refine lv_aload_n hx hb dX1_readOneVersion_22 rfl (lv_at hl 0 rfl) ?_
    refine lv_dup hx hb dX1_readOneVersion_23 rfl ?_
    refine va_get (D := gD G) (ci := 1) (v := .int (rd.1 2)) (C := RX1) (T := TX1) (N := 10) hx hb hts hiX1 hown hK hP 0 rfl rfl 2 (by decide) k19 (fun _ h9 => h9) rfl dX1_readOneVersion_24 ?_
    refine topE ha0 ?_
    refine lv_iconst (v := nI 1) hx hb dX1_readOneVersion_27 (by decide) ?_
    refine lv_iadd hx hb dX1_readOneVersion_28 ?_
    refine topE (y := nI (a0 + 1)) (nI_add a0 1) ?_
    refine va_put (D := gD G) (ci := 1) (v := .int (nI (a0 + 1))) (ty := .int) (C := RX1) (T := TX1) (N := 10) hx hb hts hiX1 tyX1 tyX1_ok nmX1 hown hK hP hD hS 0 rfl rfl 2 (by decide) k19 (fun _ h9 => h9) rfl (by decide +kernel) (rfl) (rfl) (Nat.le_of_ble_eq_true rfl) dX1_readOneVersion_29 (fun H locs hP hD hS => ?_)
    have hP : PP G (rv G h (oI rd 2 (nI (a0 + 1))) w) H := hP
    have hD : va_D A (rv G h (oI rd 2 (nI (a0 + 1))) w) := hD
    refine lv_aload_n hx hb dX1_readOneVersion_32 rfl (lv_at hl 0 rfl) ?_
    refine cXi (As := []) (rest := []) (S := oS × oS) (wa := rv G h (oI rd 2 (nI (a0 + 1))) w) (w1 := fun v => rv G h v.1 v.2) ⟨hx, hb, hml, hown, hts⟩ (mt_X1_readParent l G h _ (oI rd 2 (nI (a0 + 1))) w len (a0 + 1) nv (hlen) (rfl) (hnv) (by first | assumption | omega) (by first | assumption | omega) (by first | assumption | omega)) (cwV 0 hts gX1_readOneVersion_X1_readParent rfl rfl rfl (by decide +kernel) ⟨Nat.le_of_ble_eq_true rfl, Nat.le_of_ble_eq_true rfl⟩) hK hN hP hD hS hA (fun _ => rfl) 0 1 rfl rfl rfl hl.1 rfl (Nat.le_of_ble_eq_true rfl) ⟨Nat.zero_le _, Nat.zero_le _⟩ dX1_readOneVersion_33 (fun r33 u33 H locs hw33 hP hD hS => ?_)
    obtain ⟨q33, b33, rfl, hR33, hb33, hbn33⟩ := hw33
    have hP : PP G (rv G h q33 w) H := hP
    have hD : va_D A (rv G h q33 w) := hD
    refine lv_istore_n (lv' := [(1, .int r33), (0, .ref (h 0))]) hx hb dX1_readOneVersion_36 rfl hl (by decide) rfl (fun ls hl => ?_)
    refine lv_aload_n hx hb dX1_readOneVersion_37 rfl (lv_at hl 1 rfl) ?_
    refine lv_bipush (v := nI 43) hx hb dX1_readOneVersion_38 (by decide) ?_
    refine lv_iconst (v := nI 0) hx hb dX1_readOneVersion_40 (by decide) ?_
    refine cXi (As := [.int (nI 43), .int (nI 0)]) (rest := []) (S := oS × oS) (wa := rv G h q33 w) (w1 := fun v => rv G h v.1 v.2) ⟨hx, hb, hml, hown, hts⟩ (mt_X1_readOthers l G h _ q33 w len b33 nv (nI 43) (nI 0) ((hR33.1 1 (by decide)).trans (hlen)) (hb33) (hnv) (by first | assumption | omega) (by first | assumption | omega) (by first | assumption | omega) (by decide)) (cwV 2 hts gX1_readOneVersion_X1_readOthers rfl rfl rfl (by decide +kernel) ⟨Nat.le_of_ble_eq_true rfl, Nat.le_of_ble_eq_true rfl⟩) hK hN hP hD hS hA (fun _ => rfl) 0 1 rfl rfl rfl hl.1 rfl (Nat.le_of_ble_eq_true rfl) ⟨Nat.zero_le _, Nat.zero_le _⟩ dX1_readOneVersion_41 (fun r41 u41 H locs hw41 hP hD hS => ?_)
    obtain ⟨q41, b41, rfl, hR41, hb41, hbn41⟩ := hw41
    have hP : PP G (rv G h q41 w) H := hP
    have hD : va_D A (rv G h q41 w) := hD
    refine lv_istore_n (lv' := [(2, .int r41), (1, .int r33), (0, .ref (h 0))]) hx hb dX1_readOneVersion_44 rfl hl (by decide) rfl (fun ls hl => ?_)
    refine lv_aload_n hx hb dX1_readOneVersion_45 rfl (lv_at hl 2 rfl) ?_
    refine lv_bipush (v := nI 45) hx hb dX1_readOneVersion_46 (by decide) ?_
    refine lv_iload_n hx hb dX1_readOneVersion_48 rfl (lv_at hl 0 rfl) ?_
    refine cXi (As := [.int (nI 45), .int r41]) (rest := []) (S := oS × oS) (wa := rv G h q41 w) (w1 := fun v => rv G h v.1 v.2) ⟨hx, hb, hml, hown, hts⟩ (mt_X1_readOthers l G h _ q41 w len b41 nv (nI 45) r41 ((hR41.1 1 (by decide)).trans ((hR33.1 1 (by decide)).trans (hlen))) (hb41) (hnv) (by first | assumption | omega) (by first | assumption | omega) (by first | assumption | omega) (by decide)) (cwV 2 hts gX1_readOneVersion_X1_readOthers rfl rfl rfl (by decide +kernel) ⟨Nat.le_of_ble_eq_true rfl, Nat.le_of_ble_eq_true rfl⟩) hK hN hP hD hS hA (fun _ => rfl) 0 1 rfl rfl rfl hl.1 rfl (Nat.le_of_ble_eq_true rfl) ⟨Nat.zero_le _, Nat.zero_le _⟩ dX1_readOneVersion_49 (fun r49 u49 H locs hw49 hP hD hS => ?_)
    obtain ⟨q49, b49, rfl, hR49, hb49, hbn49⟩ := hw49
    have hP : PP G (rv G h q49 w) H := hP
    have hD : va_D A (rv G h q49 w) := hD
    refine lv_istore_n (lv' := [(3, .int r49), (2, .int r41), (1, .int r33), (0, .ref (h 0))]) hx hb dX1_readOneVersion_52 rfl hl (by decide) rfl (fun ls hl => ?_)
    refine lv_aload_n hx hb dX1_readOneVersion_53 rfl (lv_at hl 3 rfl) ?_
    refine lv_bipush (v := nI 59) hx hb dX1_readOneVersion_54 (by decide) ?_
    refine cXv (As := [.int (nI 59)]) (rest := []) (S := oS × oS) (wa := rv G h q49 w) (w1 := fun v => rv G h v.1 v.2) ⟨hx, hb, hml, hown, hts⟩ (mt_X1_expect l G h _ q49 w len b49 (nI 59) ((hR49.1 1 (by decide)).trans ((hR41.1 1 (by decide)).trans ((hR33.1 1 (by decide)).trans (hlen)))) (hb49) (by first | assumption | omega) (by first | assumption | omega) (by decide)) (cwV 1 hts gX1_readOneVersion_X1_expect rfl rfl rfl (by decide +kernel) ⟨Nat.le_of_ble_eq_true rfl, Nat.le_of_ble_eq_true rfl⟩) hK hN hP hD hS hA (fun _ => rfl) 0 1 rfl rfl rfl hl.1 rfl (Nat.le_of_ble_eq_true rfl) ⟨Nat.zero_le _, Nat.zero_le _⟩ dX1_readOneVersion_56 (fun u56 H locs hw56 hP hD hS => ?_)
    obtain ⟨q56, b56, rfl, hR56, hb56, hbn56⟩ := hw56
    have hP : PP G (rv G h q56 w) H := hP
    have hD : va_D A (rv G h q56 w) := hD
    refine lv_aload_n hx hb dX1_readOneVersion_59 rfl (lv_at hl 3 rfl) ?_
    refine va_get (D := gD G) (ci := 1) (v := .int (q56.1 4)) (C := RX1) (T := TX1) (N := 10) hx hb hts hiX1 hown hK hP 0 rfl rfl 4 (by decide) k25 (fun _ h9 => h9) rfl dX1_readOneVersion_60 ?_
    refine lv_if_ne (tgt := 83) hx hb dX1_readOneVersion_63 (by decide) (fun c63 => ?_) (fun c63 => ?_)
    · skip
      exact W.vret hx hb hr (fun t ht hW => ⟨⟨(q56, w), rfl, ⟨_, _, b56, nv, rfl, by repeat (first | exact rel.refl _ | exact rel.mono (by assumption) (by decide) (by decide) | refine rel.I (by decide) ?_ | refine rel.A (by decide) ?_ | refine rel.trans ?_ (rel.mono (by assumption) (by decide) (by decide))), hb56, by omega, by repeat (first | exact rel.refl _ | exact rel.mono (by assumption) (by decide) (by decide) | refine rel.I (by decide) ?_ | refine rel.A (by decide) ?_ | refine rel.trans ?_ (rel.mono (by assumption) (by decide) (by decide))), hnv, by omega⟩, show PP G (rv G h q56 w) t.heap by rw [ht]; exact hP⟩, hS.F ht⟩) hS.2.2 dX1_readOneVersion_83
    · skip
      refine lv_aload_n hx hb dX1_readOneVersion_66 rfl (lv_at hl 3 rfl) ?_
      refine va_get (D := gD G) (ci := 1) (v := .ref (h 10)) (C := RX1) (T := TX1) (N := 10) hx hb hts hiX1 hown hK hP 0 rfl rfl 9 (by decide) k44 (fun _ h9 => h9) rfl dX1_readOneVersion_67 ?_
      refine lv_iload_n hx hb dX1_readOneVersion_70 rfl (lv_at hl 2 rfl) ?_
      refine lv_iload_n hx hb dX1_readOneVersion_71 rfl (lv_at hl 1 rfl) ?_
      refine lv_iload_n hx hb dX1_readOneVersion_72 rfl (lv_at hl 0 rfl) ?_
      refine cWv (As := [.int r33, .int r41, .int r49]) (rest := []) (S := oS) (wa := rv G h q56 w) (wc := wv G (fun k => h (10 + k)) w) (w1 := fun v => wv G (fun k => h (10 + k)) v) (wa' := fun v => rv G h q56 v) ⟨hx, hb, hml, hown, hts⟩ (mt_X3_beginVersion l G (fun k => h (10 + k)) _ w nv r33 r41 r49 (hnv) (by first | assumption | omega)) (cwV 3 hts gX1_readOneVersion_X3_beginVersion rfl rfl rfl (by decide +kernel) ⟨Nat.le_of_ble_eq_true rfl, Nat.le_of_ble_eq_true rfl⟩) hK hN hP hD hS hA [4, 5, 6, 7, 8, 9, 10, 11] rfl (by decide) rfl (fun _ => rfl) (fun _ => rfl) (fun _ => rfl) 0 3 rfl rfl rfl hl.1 rfl (Nat.le_of_ble_eq_true rfl) ⟨Nat.zero_le _, Nat.zero_le _⟩ dX1_readOneVersion_73 (fun u73 H locs hw73 hP hD hS => ?_)
      have hR73 := hw73
      have hP : PP G (rv G h q56 u73) H := hP
      have hD : va_D A (rv G h q56 u73) := hD
      refine lv_aload_n hx hb dX1_readOneVersion_76 rfl (lv_at hl 3 rfl) ?_
      refine va_get (D := gD G) (ci := 1) (v := .ref (h 10)) (C := RX1) (T := TX1) (N := 10) hx hb hts hiX1 hown hK hP 0 rfl rfl 9 (by decide) k44 (fun _ h9 => h9) rfl dX1_readOneVersion_77 ?_
      refine cWv (As := []) (rest := []) (S := oS) (wa := rv G h q56 u73) (wc := wv G (fun k => h (10 + k)) u73) (w1 := fun v => wv G (fun k => h (10 + k)) v) (wa' := fun v => rv G h q56 v) ⟨hx, hb, hml, hown, hts⟩ (mt_X3_finishVersion l G (fun k => h (10 + k)) _ u73 nv ((hR73.1 0 (by decide)).trans (hnv)) (by first | assumption | omega)) (cwV 0 hts gX1_readOneVersion_X3_finishVersion rfl rfl rfl (by decide +kernel) ⟨Nat.le_of_ble_eq_true rfl, Nat.le_of_ble_eq_true rfl⟩) hK hN hP hD hS hA [4, 5, 6, 7, 8, 9, 10, 11] rfl (by decide) rfl (fun _ => rfl) (fun _ => rfl) (fun _ => rfl) 0 3 rfl rfl rfl hl.1 rfl (Nat.le_of_ble_eq_true rfl) ⟨Nat.zero_le _, Nat.zero_le _⟩ dX1_readOneVersion_80 (fun u80 H locs hw80 hP hD hS => ?_)
      obtain ⟨n80, hn80, rfl⟩ := hw80
      have hP : PP G (rv G h q56 (oI u73 0 (nI n80))) H := hP
      have hD : va_D A (rv G h q56 (oI u73 0 (nI n80))) := hD
      exact W.vret hx hb hr (fun t ht hW => ⟨⟨(q56, oI u73 0 (nI n80)), rfl, ⟨_, _, b56, n80, rfl, by repeat (first | exact rel.refl _ | exact rel.mono (by assumption) (by decide) (by decide) | refine rel.I (by decide) ?_ | refine rel.A (by decide) ?_ | refine rel.trans ?_ (rel.mono (by assumption) (by decide) (by decide))), hb56, by omega, by repeat (first | exact rel.refl _ | exact rel.mono (by assumption) (by decide) (by decide) | refine rel.I (by decide) ?_ | refine rel.A (by decide) ?_ | refine rel.trans ?_ (rel.mono (by assumption) (by decide) (by decide))), rfl, by omega⟩, show PP G (rv G h q56 (oI u73 0 (nI n80))) t.heap by rw [ht]; exact hP⟩, hS.F ht⟩) hS.2.2 dX1_readOneVersion_83
  · skip
    have n9 : ¬ (nv < 24) := fun q9 => c9 ((nI_ltI (a := nv) (b := 24) (by omega) (by omega)).mpr q9)
    refine lv_aload_n hx hb dX1_readOneVersion_12 rfl (lv_at hl 0 rfl) ?_
    refine lv_iconst (v := nI 3) hx hb dX1_readOneVersion_13 (by decide) ?_
    refine lv_aload_n hx hb dX1_readOneVersion_14 rfl (lv_at hl 0 rfl) ?_
    refine va_get (D := gD G) (ci := 1) (v := .int (rd.1 2)) (C := RX1) (T := TX1) (N := 10) hx hb hts hiX1 hown hK hP 0 rfl rfl 2 (by decide) k19 (fun _ h9 => h9) rfl dX1_readOneVersion_15 ?_
    refine topE ha0 ?_
    refine cXv (As := [.int (nI 3), .int (nI a0)]) (rest := []) (S := oS × oS) (wa := rv G h rd w) (w1 := fun v => rv G h v.1 v.2) ⟨hx, hb, hml, hown, hts⟩ (mt_X1_fail l G h _ rd w (nI 3) (nI a0)) (cwV 2 hts gX1_readOneVersion_X1_fail rfl rfl rfl (by decide +kernel) ⟨Nat.le_of_ble_eq_true rfl, Nat.le_of_ble_eq_true rfl⟩) hK hN hP hD hS hA (fun _ => rfl) 0 1 rfl rfl rfl hl.1 rfl (Nat.le_of_ble_eq_true rfl) ⟨Nat.zero_le _, Nat.zero_le _⟩ dX1_readOneVersion_18 (fun u18 H locs hw18 hP hD hS => ?_)
    obtain ⟨q18, rfl, hR18⟩ := hw18
    have hP : PP G (rv G h q18 w) H := hP
    have hD : va_D A (rv G h q18 w) := hD
    exact W.vret hx hb hr (fun t ht hW => ⟨⟨(q18, w), rfl, ⟨_, _, a0, nv, rfl, by repeat (first | exact rel.refl _ | exact rel.mono (by assumption) (by decide) (by decide) | refine rel.I (by decide) ?_ | refine rel.A (by decide) ?_ | refine rel.trans ?_ (rel.mono (by assumption) (by decide) (by decide))), (hR18.1 2 (by decide)).trans (ha0), by omega, by repeat (first | exact rel.refl _ | exact rel.mono (by assumption) (by decide) (by decide) | refine rel.I (by decide) ?_ | refine rel.A (by decide) ?_ | refine rel.trans ?_ (rel.mono (by assumption) (by decide) (by decide))), hnv, by omega⟩, show PP G (rv G h q18 w) t.heap by rw [ht]; exact hP⟩, hS.F ht⟩) hS.2.2 dX1_readOneVersion_21
set_option maxHeartbeats 1000000 in
set_option maxRecDepth 100000 in
theorem mt_X1_bringerAround (l : Launch) (G : gG) (h : Nat → Nat) (rd : oS) (w : oS) (dp : Nat) (hdp : rd.1 8 = nI dp) (hd48 : dp ≤ 48) : Met l yX1_bringerAround wsX1_bringerAround ({ frames := 0, cells := 0, slots := 0, locals := 0 }) (preR G (rv G h rd w) [.ref (h 0)]) (vp_Si (fun r : Int32 => True)) 0 0 (fun _ => False) := by
  refine Met.ofW (cc := cX1_bringerAround) (maxL := 2) (ret := (some .int)) (by decide) rfl ?_
  intro p e s m args below meth c s₁ B hml hv
  obtain ⟨ha, hP, hK, hN⟩ := hv
  subst ha
  have hx := B.exec
  have hb := B.bytes
  have hr := B.returns
  have hts := atoms_spec (ws := wsX1_bringerAround) B.pre
  have hown : s.vm.findClass RX1 = some m.cls := findClass_of_methodNamed B.named
  have hlocks := B.notSynchronized
  have hiX1 : ∀ w ∈ wsX10, w ∈ wsX1_bringerAround := by decide +kernel
  have k38 := hts (.fieldLink RX1 38 "WovenHistory$Reader" "depth" "I") (List.mem_of_getElem? (i := 1) rfl)
  have k31 := hts (.fieldLink RX1 31 "WovenHistory$Reader" "blockBrings" "[Z") (List.mem_of_getElem? (i := 2) rfl)
  have k35 := hts (.fieldLink RX1 35 "WovenHistory$Reader" "blockBy" "[I") (List.mem_of_getElem? (i := 3) rfl)
  have hl := lv_entry ([.ref (h 0)]) (n := 2) (Nat.le_of_ble_eq_true rfl)
  rw [lg_entry_eq]
  generalize (lg_sl ([.ref (h 0)]) ++ List.replicate (2 - (lg_sl ([.ref (h 0)])).length) Slot.unset).toArray = ls at hl ⊢
  have hl : lv_has ls 2 [(0, .ref (h 0))] := hl
  refine lv_aload_n hx hb dX1_bringerAround_0 rfl (lv_at hl 0 rfl) ?_
  refine va_get (D := gD G) (ci := 1) (v := .int (rd.1 8)) (C := RX1) (T := TX1) (N := 10) hx hb hts hiX1 hown hK hP 0 rfl rfl 8 (by decide) k38 (fun _ h9 => h9) rfl dX1_bringerAround_1 ?_
  refine topE hdp ?_
  refine lv_iconst (v := nI 1) hx hb dX1_bringerAround_4 (by decide) ?_
  refine lv_isub hx hb dX1_bringerAround_5 ?_
  refine topE (y := nI dp + (-1)) (nI_subm dp) ?_
  refine lv_istore_n (lv' := [(1, .int (nI dp + (-1))), (0, .ref (h 0))]) hx hb dX1_bringerAround_6 rfl hl (by decide) rfl (fun ls hl => ?_)
  have LP7 : ∀ (n7m : Nat), ∀ (kk : Nat) (hkk : kk ≤ 48), (kk < n7m) → ∀ (ls : Array Slot), lv_has ls 2 [(0, .ref (h 0)), (1, .int (nI kk + (-1)))] → W p l e (headSpec wsX1_bringerAround ({ frames := 0, cells := 0, slots := 0, locals := 0 })).room s m ([.ref (h 0)] : List Value).toArray below meth c s.heap [] 0 0 (MQ below (vp_Si (fun r : Int32 => True)) ([.ref (h 0)] : List Value).toArray s 0 0 (fun _ => False)) (F0 m 7 ls []) := by
    intro n7m
    induction n7m with
    | zero => intro kk hkk hmu ls hl; exact absurd hmu (Nat.not_lt_zero _)
    | succ n7m ih7 =>
      intro kk hkk hmu ls hl
      refine lv_iload_n hx hb dX1_bringerAround_7 rfl (lv_at hl 1 rfl) ?_
      refine lv_if_lt (tgt := 33) hx hb dX1_bringerAround_8 (by decide) (fun c8 => ?_) (fun c8 => ?_)
      · skip
        refine lv_iconst (v := (-1 : Int32)) hx hb dX1_bringerAround_33 (by decide) ?_
        exact W.iret (v := (-1 : Int32)) hx hb hr (fun t ht hW => ⟨(-1 : Int32), rfl, by first | rfl | trivial | omega | assumption, ht⟩) (fun _ h9 => by cases h9) dX1_bringerAround_34
      · skip
        obtain ⟨k8, rfl⟩ := nI_m1pos c8
        rw [pk_m1] at hl
        refine lv_aload_n hx hb dX1_bringerAround_11 rfl (lv_at hl 0 rfl) ?_
        refine va_get (D := gD G) (ci := 1) (v := .ref (h 7)) (C := RX1) (T := TX1) (N := 10) hx hb hts hiX1 hown hK hP 0 rfl rfl 6 (by decide) k31 (fun _ h9 => h9) rfl dX1_bringerAround_12 ?_
        refine lv_iload_n hx hb dX1_bringerAround_15 rfl (lv_at hl 1 rfl) ?_
        refine zaldN (f := rd.2 6) (n := 48) (k := k8) hx hb hK hP 2 rfl rfl (by omega) dX1_bringerAround_16 ?_
        refine lv_if_eq (tgt := 27) hx hb dX1_bringerAround_17 (by decide) (fun c17 => ?_) (fun c17 => ?_)
        · skip
          refine lv_iinc (v := (nI k8) + (-1)) (lv' := [(1, .int ((nI k8) + (-1))), (0, .ref (h 0))]) hx hb dX1_bringerAround_27 hl (k := 1) rfl (rfl) (by decide) rfl (fun ls hl => ?_)
          refine lv_goto (tgt := 7) hx hb dX1_bringerAround_30 (by decide) ?_
          exact ih7 k8 (by first | assumption | omega) (by omega) ls (lv_sub hl [1, 0] rfl)
        · skip
          refine lv_aload_n hx hb dX1_bringerAround_20 rfl (lv_at hl 0 rfl) ?_
          refine va_get (D := gD G) (ci := 1) (v := .ref (h 8)) (C := RX1) (T := TX1) (N := 10) hx hb hts hiX1 hown hK hP 0 rfl rfl 7 (by decide) k35 (fun _ h9 => h9) rfl dX1_bringerAround_21 ?_
          refine lv_iload_n hx hb dX1_bringerAround_24 rfl (lv_at hl 1 rfl) ?_
          refine ialdN (f := rd.2 7) (n := 48) (k := k8) hx hb hK hP 3 rfl rfl (by omega) dX1_bringerAround_25 ?_
          exact W.iret (v := (rd.2 7) k8) hx hb hr (fun t ht hW => ⟨(rd.2 7) k8, rfl, by first | rfl | trivial | omega | assumption, ht⟩) (fun _ h9 => by cases h9) dX1_bringerAround_26
  exact LP7 (dp + 1) dp (by first | assumption | omega) (Nat.lt_succ_self _) ls (lv_sub hl [1, 0] rfl)
set_option maxHeartbeats 1000000 in
set_option maxRecDepth 100000 in
theorem mt_X1_takersAround (l : Launch) (G : gG) (h : Nat → Nat) (rd : oS) (w : oS) (dp : Nat) (hdp : rd.1 8 = nI dp) (hd48 : dp ≤ 48) : Met l yX1_takersAround wsX1_takersAround ({ frames := 1, cells := 0, slots := 0, locals := 20 }) (preR G (rv G h rd w) [.ref (h 0)]) (vp_Si (fun r : Int32 => True)) 0 0 (fun _ => False) := by
  refine Met.ofW (cc := cX1_takersAround) (maxL := 3) (ret := (some .int)) (by decide) rfl ?_
  intro p e s m args below meth c s₁ B hml hv
  obtain ⟨ha, hP, hK, hN⟩ := hv
  subst ha
  have hx := B.exec
  have hb := B.bytes
  have hr := B.returns
  have hts := atoms_spec (ws := wsX1_takersAround) B.pre
  have hown : s.vm.findClass RX1 = some m.cls := findClass_of_methodNamed B.named
  have hlocks := B.notSynchronized
  have hiX1 : ∀ w ∈ wsX10, w ∈ wsX1_takersAround := by decide +kernel
  have k38 := hts (.fieldLink RX1 38 "WovenHistory$Reader" "depth" "I") (List.mem_of_getElem? (i := 1) rfl)
  have k31 := hts (.fieldLink RX1 31 "WovenHistory$Reader" "blockBrings" "[Z") (List.mem_of_getElem? (i := 2) rfl)
  have k35 := hts (.fieldLink RX1 35 "WovenHistory$Reader" "blockBy" "[I") (List.mem_of_getElem? (i := 3) rfl)
  have hl := lv_entry ([.ref (h 0)]) (n := 3) (Nat.le_of_ble_eq_true rfl)
  rw [lg_entry_eq]
  generalize (lg_sl ([.ref (h 0)]) ++ List.replicate (3 - (lg_sl ([.ref (h 0)])).length) Slot.unset).toArray = ls at hl ⊢
  have hl : lv_has ls 3 [(0, .ref (h 0))] := hl
  refine lv_iconst (v := nI 0) hx hb dX1_takersAround_0 (by decide) ?_
  refine lv_istore_n (lv' := [(1, .int (nI 0)), (0, .ref (h 0))]) hx hb dX1_takersAround_1 rfl hl (by decide) rfl (fun ls hl => ?_)
  refine lv_iconst (v := nI 0) hx hb dX1_takersAround_2 (by decide) ?_
  refine lv_istore_n (lv' := [(2, .int (nI 0)), (1, .int (nI 0)), (0, .ref (h 0))]) hx hb dX1_takersAround_3 rfl hl (by decide) rfl (fun ls hl => ?_)
  have LP4 : ∀ (n4m : Nat), ∀ (k : Nat) (y : Int32) (hk : k ≤ dp), (dp - k < n4m) → ∀ (ls : Array Slot), lv_has ls 3 [(0, .ref (h 0)), (1, .int y), (2, .int (nI k))] → W p l e (headSpec wsX1_takersAround ({ frames := 1, cells := 0, slots := 0, locals := 20 })).room s m ([.ref (h 0)] : List Value).toArray below meth c s.heap [] 0 0 (MQ below (vp_Si (fun r : Int32 => True)) ([.ref (h 0)] : List Value).toArray s 0 0 (fun _ => False)) (F0 m 4 ls []) := by
    intro n4m
    induction n4m with
    | zero => intro k y hk hmu ls hl; exact absurd hmu (Nat.not_lt_zero _)
    | succ n4m ih4 =>
      intro k y hk hmu ls hl
      refine lv_iload_n hx hb dX1_takersAround_4 rfl (lv_at hl 2 rfl) ?_
      refine lv_aload_n hx hb dX1_takersAround_5 rfl (lv_at hl 0 rfl) ?_
      refine va_get (D := gD G) (ci := 1) (v := .int (rd.1 8)) (C := RX1) (T := TX1) (N := 10) hx hb hts hiX1 hown hK hP 0 rfl rfl 8 (by decide) k38 (fun _ h9 => h9) rfl dX1_takersAround_6 ?_
      refine topE hdp ?_
      refine lv_icmp_ge (tgt := 39) hx hb dX1_takersAround_9 (by decide) (fun c9 => ?_) (fun c9 => ?_)
      · skip
        have n9 : dp ≤ k := (nI_leI (a := dp) (b := k) (by omega) (by omega)).mp c9
        refine lv_iload_n hx hb dX1_takersAround_39 rfl (lv_at hl 1 rfl) ?_
        exact W.iret (v := y) hx hb hr (fun t ht hW => ⟨y, rfl, by first | rfl | trivial | omega | assumption, ht⟩) (fun _ h9 => by cases h9) dX1_takersAround_40
      · skip
        have n9 : ¬ (dp ≤ k) := fun q9 => c9 ((nI_leI (a := dp) (b := k) (by omega) (by omega)).mpr q9)
        refine lv_aload_n hx hb dX1_takersAround_12 rfl (lv_at hl 0 rfl) ?_
        refine va_get (D := gD G) (ci := 1) (v := .ref (h 7)) (C := RX1) (T := TX1) (N := 10) hx hb hts hiX1 hown hK hP 0 rfl rfl 6 (by decide) k31 (fun _ h9 => h9) rfl dX1_takersAround_13 ?_
        refine lv_iload_n hx hb dX1_takersAround_16 rfl (lv_at hl 2 rfl) ?_
        refine zaldN (f := rd.2 6) (n := 48) (k := k) hx hb hK hP 2 rfl rfl (by omega) dX1_takersAround_17 ?_
        refine lv_if_ne (tgt := 33) hx hb dX1_takersAround_18 (by decide) (fun c18 => ?_) (fun c18 => ?_)
        · skip
          refine lv_iinc (v := nI (k + 1)) (lv' := [(2, .int (nI (k + 1))), (0, .ref (h 0)), (1, .int y)]) hx hb dX1_takersAround_33 hl (k := 2) rfl (nI_1 k) (by decide) rfl (fun ls hl => ?_)
          refine lv_goto (tgt := 4) hx hb dX1_takersAround_36 (by decide) ?_
          exact ih4 (k + 1) y (by first | assumption | omega) (by omega) ls (lv_sub hl [1, 2, 0] rfl)
        · skip
          refine lv_iload_n hx hb dX1_takersAround_21 rfl (lv_at hl 1 rfl) ?_
          refine lv_aload_n hx hb dX1_takersAround_22 rfl (lv_at hl 0 rfl) ?_
          refine va_get (D := gD G) (ci := 1) (v := .ref (h 8)) (C := RX1) (T := TX1) (N := 10) hx hb hts hiX1 hown hK hP 0 rfl rfl 7 (by decide) k35 (fun _ h9 => h9) rfl dX1_takersAround_23 ?_
          refine lv_iload_n hx hb dX1_takersAround_26 rfl (lv_at hl 2 rfl) ?_
          refine ialdN (f := rd.2 7) (n := 48) (k := k) hx hb hK hP 3 rfl rfl (by omega) dX1_takersAround_27 ?_
          refine cSi (As := [.int ((rd.2 7) k)]) (rest := [.int y]) ⟨hx, hb, hml, hown, hts⟩ (mt_X3_only l ((rd.2 7) k)) (va_cwS 1 hts gX1_takersAround_X3_only rfl rfl rfl (by decide +kernel) ⟨Nat.le_of_ble_eq_true rfl, Nat.le_of_ble_eq_true rfl⟩) rfl hl.1 rfl (Nat.le_of_ble_eq_true rfl) ⟨Nat.zero_le _, Nat.zero_le _⟩ dX1_takersAround_28 (fun r28 hw28 => ?_)
          refine lv_ior hx hb dX1_takersAround_31 ?_
          refine lv_istore_n (lv' := [(1, .int (y ||| r28)), (0, .ref (h 0)), (2, .int (nI k))]) hx hb dX1_takersAround_32 rfl hl (by decide) rfl (fun ls hl => ?_)
          refine lv_iinc (v := nI (k + 1)) (lv' := [(2, .int (nI (k + 1))), (1, .int (y ||| r28)), (0, .ref (h 0))]) hx hb dX1_takersAround_33 hl (k := 2) rfl (nI_1 k) (by decide) rfl (fun ls hl => ?_)
          refine lv_goto (tgt := 4) hx hb dX1_takersAround_36 (by decide) ?_
          exact ih4 (k + 1) (y ||| r28) (by first | assumption | omega) (by omega) ls (lv_sub hl [2, 1, 0] rfl)
  exact LP4 (dp - 0 + 1) 0 (nI 0) (by first | assumption | omega) (Nat.lt_succ_self _) ls (lv_sub hl [2, 1, 0] rfl)
set_option maxHeartbeats 1000000 in
set_option maxRecDepth 100000 in
theorem mt_X1_upTo (l : Launch) (x : Int32) : Met l yX1_upTo wsX1_upTo ({ frames := 1, cells := 0, slots := 0, locals := 20 }) (preS [.int x]) (vp_Si (fun r : Int32 => True)) 0 0 (fun _ => False) := by
  refine Met.ofW (cc := cX1_upTo) (maxL := 1) (ret := (some .int)) (by decide) rfl ?_
  intro p e s m args below meth c s₁ B hml hv
  obtain ⟨ha, -⟩ := hv
  subst ha
  have hx := B.exec
  have hb := B.bytes
  have hr := B.returns
  have hts := atoms_spec (ws := wsX1_upTo) B.pre
  have hown : s.vm.findClass RX1 = some m.cls := findClass_of_methodNamed B.named
  have hlocks := B.notSynchronized
  have hl := lv_entry ([.int x]) (n := 1) (Nat.le_of_ble_eq_true rfl)
  rw [lg_entry_eq]
  generalize (lg_sl ([.int x]) ++ List.replicate (1 - (lg_sl ([.int x])).length) Slot.unset).toArray = ls at hl ⊢
  have hl : lv_has ls 1 [(0, .int x)] := hl
  refine lv_iload_n hx hb dX1_upTo_0 rfl (lv_at hl 0 rfl) ?_
  refine cSi (As := [.int x]) (rest := []) ⟨hx, hb, hml, hown, hts⟩ (mt_X3_only l x) (va_cwS 1 hts gX1_upTo_X3_only rfl rfl rfl (by decide +kernel) ⟨Nat.le_of_ble_eq_true rfl, Nat.le_of_ble_eq_true rfl⟩) rfl hl.1 rfl (Nat.le_of_ble_eq_true rfl) ⟨Nat.zero_le _, Nat.zero_le _⟩ dX1_upTo_1 (fun r1 hw1 => ?_)
  refine lv_iconst (v := (1 : Int32)) hx hb dX1_upTo_4 (by decide) ?_
  refine lv_ishl hx hb dX1_upTo_5 ?_
  refine lv_iconst (v := nI 1) hx hb dX1_upTo_6 (by decide) ?_
  refine lv_isub hx hb dX1_upTo_7 ?_
  exact W.iret (v := (r1 <<< ((1 : Int32) &&& 31)) - (nI 1)) hx hb hr (fun t ht hW => ⟨(r1 <<< ((1 : Int32) &&& 31)) - (nI 1), rfl, by first | rfl | trivial | omega | assumption, ht⟩) (fun _ h9 => by cases h9) dX1_upTo_8
set_option maxHeartbeats 1000000 in
set_option maxRecDepth 100000 in
theorem mt_X1_beginBlock (l : Launch) (G : gG) (h : Nat → Nat) (sz : Nat) (rd : oS) (w : oS) (len : Nat) (a0 : Nat) (dp : Nat) (nv : Nat) (z1 : Int32) (hlen : rd.1 1 = nI len) (ha0 : rd.1 2 = nI a0) (hdp : rd.1 8 = nI dp) (hnv : w.1 0 = nI nv) (hl240 : len ≤ 240) (hAl : a0 < len) (hd48 : dp ≤ 48) (hnv24 : nv ≤ 24) (hz : z1 = 0 ∨ z1 = 1) : Met l yX1_beginBlock wsX1_beginBlock ({ frames := 3, cells := 0, slots := 0, locals := 64 }) (preW G (rv G h rd w) sz [.ref (h 0), .int z1]) (va_Qv (fun (v : oS × oS) => ∃ q b d, v = (q, w) ∧ rel [2, 3, 4, 5, 8] [6, 7] rd q ∧ q.1 2 = nI b ∧ b ≤ len ∧ q.1 8 = nI d ∧ d ≤ 48) (fun v t => PP G (rv G h v.1 v.2) t.heap) (va_A (rv G h rd w) sz)) 0 0 (va_A (rv G h rd w) sz) := by
  refine Met.ofW (cc := cX1_beginBlock) (maxL := 3) (ret := none) (by decide) rfl ?_
  intro p e s m args below meth c s₁ B hml hv
  obtain ⟨ha, hsz, hP, hK, hN, hD0⟩ := hv
  subst ha
  have hx := B.exec
  have hb := B.bytes
  have hr := B.returns
  have hts := atoms_spec (ws := wsX1_beginBlock) B.pre
  have hown : s.vm.findClass RX1 = some m.cls := findClass_of_methodNamed B.named
  have hlocks := B.notSynchronized
  subst hsz
  have hD := hD0.self (sz := s.heap.size)
  generalize hAe : va_A (rv G h rd w) s.heap.size = A at hD ⊢
  have hA : ∀ q : Nat, s.heap.size ≤ q → A q := fun q h => by rw [← hAe]; exact Or.inr h
  clear hAe hD0
  have hS : va_S A s.heap s.heap [] := va_S.rf
  have hiX1 : ∀ w ∈ wsX10, w ∈ wsX1_beginBlock := by decide +kernel
  have k19 := hts (.fieldLink RX1 19 "WovenHistory$Reader" "at" "I") (List.mem_of_getElem? (i := 1) rfl)
  have k22 := hts (.fieldLink RX1 22 "WovenHistory$Reader" "numberAt" "I") (List.mem_of_getElem? (i := 2) rfl)
  have k25 := hts (.fieldLink RX1 25 "WovenHistory$Reader" "faultNumber" "I") (List.mem_of_getElem? (i := 3) rfl)
  have k38 := hts (.fieldLink RX1 38 "WovenHistory$Reader" "depth" "I") (List.mem_of_getElem? (i := 4) rfl)
  have k31 := hts (.fieldLink RX1 31 "WovenHistory$Reader" "blockBrings" "[Z") (List.mem_of_getElem? (i := 5) rfl)
  have k35 := hts (.fieldLink RX1 35 "WovenHistory$Reader" "blockBy" "[I") (List.mem_of_getElem? (i := 6) rfl)
  have hl := lv_entry ([.ref (h 0), .int z1]) (n := 3) (Nat.le_of_ble_eq_true rfl)
  rw [lg_entry_eq]
  generalize (lg_sl ([.ref (h 0), .int z1]) ++ List.replicate (3 - (lg_sl ([.ref (h 0), .int z1])).length) Slot.unset).toArray = ls at hl ⊢
  have hl : lv_has ls 3 [(0, .ref (h 0)), (1, .int z1)] := hl
  refine lv_aload_n hx hb dX1_beginBlock_0 rfl (lv_at hl 0 rfl) ?_
  refine lv_dup hx hb dX1_beginBlock_1 rfl ?_
  refine va_get (D := gD G) (ci := 1) (v := .int (rd.1 2)) (C := RX1) (T := TX1) (N := 10) hx hb hts hiX1 hown hK hP 0 rfl rfl 2 (by decide) k19 (fun _ h9 => h9) rfl dX1_beginBlock_2 ?_
  refine topE ha0 ?_
  refine lv_iconst (v := nI 1) hx hb dX1_beginBlock_5 (by decide) ?_
  refine lv_iadd hx hb dX1_beginBlock_6 ?_
  refine topE (y := nI (a0 + 1)) (nI_add a0 1) ?_
  refine va_put (D := gD G) (ci := 1) (v := .int (nI (a0 + 1))) (ty := .int) (C := RX1) (T := TX1) (N := 10) hx hb hts hiX1 tyX1 tyX1_ok nmX1 hown hK hP hD hS 0 rfl rfl 2 (by decide) k19 (fun _ h9 => h9) rfl (by decide +kernel) (rfl) (rfl) (Nat.le_of_ble_eq_true rfl) dX1_beginBlock_7 (fun H locs hP hD hS => ?_)
  have hP : PP G (rv G h (oI rd 2 (nI (a0 + 1))) w) H := hP
  have hD : va_D A (rv G h (oI rd 2 (nI (a0 + 1))) w) := hD
  refine lv_aload_n hx hb dX1_beginBlock_10 rfl (lv_at hl 0 rfl) ?_
  refine cXi (As := []) (rest := []) (S := oS × oS) (wa := rv G h (oI rd 2 (nI (a0 + 1))) w) (w1 := fun v => rv G h v.1 v.2) ⟨hx, hb, hml, hown, hts⟩ (mt_X1_readVersionNumber l G h _ (oI rd 2 (nI (a0 + 1))) w len (a0 + 1) nv (hlen) (rfl) (hnv) (by first | assumption | omega) (by first | assumption | omega) (by first | assumption | omega)) (cwV 0 hts gX1_beginBlock_X1_readVersionNumber rfl rfl rfl (by decide +kernel) ⟨Nat.le_of_ble_eq_true rfl, Nat.le_of_ble_eq_true rfl⟩) hK hN hP hD hS hA (fun _ => rfl) 0 1 rfl rfl rfl hl.1 rfl (Nat.le_of_ble_eq_true rfl) ⟨Nat.zero_le _, Nat.zero_le _⟩ dX1_beginBlock_11 (fun r11 u11 H locs hw11 hP hD hS => ?_)
  obtain ⟨q11, b11, rfl, hR11, hb11, hbn11⟩ := hw11
  have hP : PP G (rv G h q11 w) H := hP
  have hD : va_D A (rv G h q11 w) := hD
  refine lv_istore_n (lv' := [(2, .int r11), (0, .ref (h 0)), (1, .int z1)]) hx hb dX1_beginBlock_14 rfl hl (by decide) rfl (fun ls hl => ?_)
  refine lv_iload_n hx hb dX1_beginBlock_15 rfl (lv_at hl 0 rfl) ?_
  refine lv_aload_n hx hb dX1_beginBlock_16 rfl (lv_at hl 1 rfl) ?_
  refine cRi (w := rv G h q11 w) (As := []) (rest := [.int r11]) ⟨hx, hb, hml, hown, hts⟩ (mt_X1_bringerAround l G h q11 w dp ((hR11.1 8 (by decide)).trans (hdp)) (by first | assumption | omega)) (cwV 0 hts gX1_beginBlock_X1_bringerAround rfl rfl rfl (by decide +kernel) ⟨Nat.le_of_ble_eq_true rfl, Nat.le_of_ble_eq_true rfl⟩) hK hN hP 0 1 rfl rfl rfl hl.1 rfl (Nat.le_of_ble_eq_true rfl) ⟨Nat.zero_le _, Nat.zero_le _⟩ dX1_beginBlock_17 (fun r17 hw17 => ?_)
  refine lv_icmp_le (tgt := 38) hx hb dX1_beginBlock_20 (by decide) (fun c20 => ?_) (fun c20 => ?_)
  · skip
    refine lv_aload_n hx hb dX1_beginBlock_38 rfl (lv_at hl 1 rfl) ?_
    refine lv_iconst (v := nI 4) hx hb dX1_beginBlock_39 (by decide) ?_
    refine lv_aload_n hx hb dX1_beginBlock_40 rfl (lv_at hl 1 rfl) ?_
    refine va_get (D := gD G) (ci := 1) (v := .int (q11.1 3)) (C := RX1) (T := TX1) (N := 10) hx hb hts hiX1 hown hK hP 0 rfl rfl 3 (by decide) k22 (fun _ h9 => h9) rfl dX1_beginBlock_41 ?_
    refine cXv (As := [.int (nI 4), .int (q11.1 3)]) (rest := []) (S := oS × oS) (wa := rv G h q11 w) (w1 := fun v => rv G h v.1 v.2) ⟨hx, hb, hml, hown, hts⟩ (mt_X1_fail l G h _ q11 w (nI 4) (q11.1 3)) (cwV 2 hts gX1_beginBlock_X1_fail rfl rfl rfl (by decide +kernel) ⟨Nat.le_of_ble_eq_true rfl, Nat.le_of_ble_eq_true rfl⟩) hK hN hP hD hS hA (fun _ => rfl) 0 1 rfl rfl rfl hl.1 rfl (Nat.le_of_ble_eq_true rfl) ⟨Nat.zero_le _, Nat.zero_le _⟩ dX1_beginBlock_44 (fun u44 H locs hw44 hP hD hS => ?_)
    obtain ⟨q44, rfl, hR44⟩ := hw44
    have hP : PP G (rv G h q44 w) H := hP
    have hD : va_D A (rv G h q44 w) := hD
    refine lv_aload_n hx hb dX1_beginBlock_47 rfl (lv_at hl 1 rfl) ?_
    refine lv_bipush (v := nI 40) hx hb dX1_beginBlock_48 (by decide) ?_
    refine cXv (As := [.int (nI 40)]) (rest := []) (S := oS × oS) (wa := rv G h q44 w) (w1 := fun v => rv G h v.1 v.2) ⟨hx, hb, hml, hown, hts⟩ (mt_X1_expect l G h _ q44 w len b11 (nI 40) ((hR44.1 1 (by decide)).trans ((hR11.1 1 (by decide)).trans (hlen))) ((hR44.1 2 (by decide)).trans (hb11)) (by first | assumption | omega) (by first | assumption | omega) (by decide)) (cwV 1 hts gX1_beginBlock_X1_expect rfl rfl rfl (by decide +kernel) ⟨Nat.le_of_ble_eq_true rfl, Nat.le_of_ble_eq_true rfl⟩) hK hN hP hD hS hA (fun _ => rfl) 0 1 rfl rfl rfl hl.1 rfl (Nat.le_of_ble_eq_true rfl) ⟨Nat.zero_le _, Nat.zero_le _⟩ dX1_beginBlock_50 (fun u50 H locs hw50 hP hD hS => ?_)
    obtain ⟨q50, b50, rfl, hR50, hb50, hbn50⟩ := hw50
    have hP : PP G (rv G h q50 w) H := hP
    have hD : va_D A (rv G h q50 w) := hD
    refine lv_aload_n hx hb dX1_beginBlock_53 rfl (lv_at hl 1 rfl) ?_
    refine va_get (D := gD G) (ci := 1) (v := .int (q50.1 4)) (C := RX1) (T := TX1) (N := 10) hx hb hts hiX1 hown hK hP 0 rfl rfl 4 (by decide) k25 (fun _ h9 => h9) rfl dX1_beginBlock_54 ?_
    refine lv_if_ne (tgt := 99) hx hb dX1_beginBlock_57 (by decide) (fun c57 => ?_) (fun c57 => ?_)
    · skip
      exact W.vret hx hb hr (fun t ht hW => ⟨⟨(q50, w), rfl, ⟨_, b50, dp, rfl, by repeat (first | exact rel.refl _ | exact rel.mono (by assumption) (by decide) (by decide) | refine rel.I (by decide) ?_ | refine rel.A (by decide) ?_ | refine rel.trans ?_ (rel.mono (by assumption) (by decide) (by decide))), hb50, by omega, (hR50.1 8 (by decide)).trans ((hR44.1 8 (by decide)).trans ((hR11.1 8 (by decide)).trans (hdp))), by omega⟩, show PP G (rv G h q50 w) t.heap by rw [ht]; exact hP⟩, hS.F ht⟩) hS.2.2 dX1_beginBlock_99
    · skip
      refine lv_aload_n hx hb dX1_beginBlock_60 rfl (lv_at hl 1 rfl) ?_
      refine va_get (D := gD G) (ci := 1) (v := .int (q50.1 8)) (C := RX1) (T := TX1) (N := 10) hx hb hts hiX1 hown hK hP 0 rfl rfl 8 (by decide) k38 (fun _ h9 => h9) rfl dX1_beginBlock_61 ?_
      refine topE ((hR50.1 8 (by decide)).trans ((hR44.1 8 (by decide)).trans ((hR11.1 8 (by decide)).trans (hdp)))) ?_
      refine lv_bipush (v := nI 48) hx hb dX1_beginBlock_64 (by decide) ?_
      refine lv_icmp_ge (tgt := 99) hx hb dX1_beginBlock_66 (by decide) (fun c66 => ?_) (fun c66 => ?_)
      · skip
        have n66 : 48 ≤ dp := (nI_leI (a := 48) (b := dp) (by omega) (by omega)).mp c66
        exact W.vret hx hb hr (fun t ht hW => ⟨⟨(q50, w), rfl, ⟨_, b50, dp, rfl, by repeat (first | exact rel.refl _ | exact rel.mono (by assumption) (by decide) (by decide) | refine rel.I (by decide) ?_ | refine rel.A (by decide) ?_ | refine rel.trans ?_ (rel.mono (by assumption) (by decide) (by decide))), hb50, by omega, (hR50.1 8 (by decide)).trans ((hR44.1 8 (by decide)).trans ((hR11.1 8 (by decide)).trans (hdp))), by omega⟩, show PP G (rv G h q50 w) t.heap by rw [ht]; exact hP⟩, hS.F ht⟩) hS.2.2 dX1_beginBlock_99
      · skip
        have n66 : ¬ (48 ≤ dp) := fun q9 => c66 ((nI_leI (a := 48) (b := dp) (by omega) (by omega)).mpr q9)
        refine lv_aload_n hx hb dX1_beginBlock_69 rfl (lv_at hl 1 rfl) ?_
        refine va_get (D := gD G) (ci := 1) (v := .ref (h 7)) (C := RX1) (T := TX1) (N := 10) hx hb hts hiX1 hown hK hP 0 rfl rfl 6 (by decide) k31 (fun _ h9 => h9) rfl dX1_beginBlock_70 ?_
        refine lv_aload_n hx hb dX1_beginBlock_73 rfl (lv_at hl 1 rfl) ?_
        refine va_get (D := gD G) (ci := 1) (v := .int (q50.1 8)) (C := RX1) (T := TX1) (N := 10) hx hb hts hiX1 hown hK hP 0 rfl rfl 8 (by decide) k38 (fun _ h9 => h9) rfl dX1_beginBlock_74 ?_
        refine topE ((hR50.1 8 (by decide)).trans ((hR44.1 8 (by decide)).trans ((hR11.1 8 (by decide)).trans (hdp)))) ?_
        refine lv_iload_n hx hb dX1_beginBlock_77 rfl (lv_at hl 2 rfl) ?_
        refine zastN (f := q50.2 6) (n := 48) (k := dp) hx hb hK hP hD hS 2 rfl rfl (by omega) (by assumption) dX1_beginBlock_78 (fun H locs hP hD hS => ?_)
        have hP : PP G (rv G h (oA q50 6 (upd (q50.2 6) dp z1)) w) H := hP
        have hD : va_D A (rv G h (oA q50 6 (upd (q50.2 6) dp z1)) w) := hD
        refine lv_aload_n hx hb dX1_beginBlock_79 rfl (lv_at hl 1 rfl) ?_
        refine va_get (D := gD G) (ci := 1) (v := .ref (h 8)) (C := RX1) (T := TX1) (N := 10) hx hb hts hiX1 hown hK hP 0 rfl rfl 7 (by decide) k35 (fun _ h9 => h9) rfl dX1_beginBlock_80 ?_
        refine lv_aload_n hx hb dX1_beginBlock_83 rfl (lv_at hl 1 rfl) ?_
        refine va_get (D := gD G) (ci := 1) (v := .int (q50.1 8)) (C := RX1) (T := TX1) (N := 10) hx hb hts hiX1 hown hK hP 0 rfl rfl 8 (by decide) k38 (fun _ h9 => h9) rfl dX1_beginBlock_84 ?_
        refine topE ((hR50.1 8 (by decide)).trans ((hR44.1 8 (by decide)).trans ((hR11.1 8 (by decide)).trans (hdp)))) ?_
        refine lv_iload_n hx hb dX1_beginBlock_87 rfl (lv_at hl 0 rfl) ?_
        refine iastN (f := q50.2 7) (n := 48) (k := dp) hx hb hK hP hD hS 3 rfl rfl (by omega) dX1_beginBlock_88 (fun H locs hP hD hS => ?_)
        have hP : PP G (rv G h (oA (oA q50 6 (upd (q50.2 6) dp z1)) 7 (upd (q50.2 7) dp r11)) w) H := hP
        have hD : va_D A (rv G h (oA (oA q50 6 (upd (q50.2 6) dp z1)) 7 (upd (q50.2 7) dp r11)) w) := hD
        refine lv_aload_n hx hb dX1_beginBlock_89 rfl (lv_at hl 1 rfl) ?_
        refine lv_dup hx hb dX1_beginBlock_90 rfl ?_
        refine va_get (D := gD G) (ci := 1) (v := .int (q50.1 8)) (C := RX1) (T := TX1) (N := 10) hx hb hts hiX1 hown hK hP 0 rfl rfl 8 (by decide) k38 (fun _ h9 => h9) rfl dX1_beginBlock_91 ?_
        refine topE ((hR50.1 8 (by decide)).trans ((hR44.1 8 (by decide)).trans ((hR11.1 8 (by decide)).trans (hdp)))) ?_
        refine lv_iconst (v := nI 1) hx hb dX1_beginBlock_94 (by decide) ?_
        refine lv_iadd hx hb dX1_beginBlock_95 ?_
        refine topE (y := nI (dp + 1)) (nI_add dp 1) ?_
        refine va_put (D := gD G) (ci := 1) (v := .int (nI (dp + 1))) (ty := .int) (C := RX1) (T := TX1) (N := 10) hx hb hts hiX1 tyX1 tyX1_ok nmX1 hown hK hP hD hS 0 rfl rfl 8 (by decide) k38 (fun _ h9 => h9) rfl (by decide +kernel) (rfl) (rfl) (Nat.le_of_ble_eq_true rfl) dX1_beginBlock_96 (fun H locs hP hD hS => ?_)
        have hP : PP G (rv G h (oI (oA (oA q50 6 (upd (q50.2 6) dp z1)) 7 (upd (q50.2 7) dp r11)) 8 (nI (dp + 1))) w) H := hP
        have hD : va_D A (rv G h (oI (oA (oA q50 6 (upd (q50.2 6) dp z1)) 7 (upd (q50.2 7) dp r11)) 8 (nI (dp + 1))) w) := hD
        exact W.vret hx hb hr (fun t ht hW => ⟨⟨(oI (oA (oA q50 6 (upd (q50.2 6) dp z1)) 7 (upd (q50.2 7) dp r11)) 8 (nI (dp + 1)), w), rfl, ⟨_, b50, dp + 1, rfl, by repeat (first | exact rel.refl _ | exact rel.mono (by assumption) (by decide) (by decide) | refine rel.I (by decide) ?_ | refine rel.A (by decide) ?_ | refine rel.trans ?_ (rel.mono (by assumption) (by decide) (by decide))), hb50, by omega, rfl, by omega⟩, show PP G (rv G h (oI (oA (oA q50 6 (upd (q50.2 6) dp z1)) 7 (upd (q50.2 7) dp r11)) 8 (nI (dp + 1))) w) t.heap by rw [ht]; exact hP⟩, hS.F ht⟩) hS.2.2 dX1_beginBlock_99
  · skip
    refine lv_iload_n hx hb dX1_beginBlock_23 rfl (lv_at hl 2 rfl) ?_
    refine lv_if_ne (tgt := 47) hx hb dX1_beginBlock_24 (by decide) (fun c24 => ?_) (fun c24 => ?_)
    · skip
      refine lv_aload_n hx hb dX1_beginBlock_47 rfl (lv_at hl 1 rfl) ?_
      refine lv_bipush (v := nI 40) hx hb dX1_beginBlock_48 (by decide) ?_
      refine cXv (As := [.int (nI 40)]) (rest := []) (S := oS × oS) (wa := rv G h q11 w) (w1 := fun v => rv G h v.1 v.2) ⟨hx, hb, hml, hown, hts⟩ (mt_X1_expect l G h _ q11 w len b11 (nI 40) ((hR11.1 1 (by decide)).trans (hlen)) (hb11) (by first | assumption | omega) (by first | assumption | omega) (by decide)) (cwV 1 hts gX1_beginBlock_X1_expect rfl rfl rfl (by decide +kernel) ⟨Nat.le_of_ble_eq_true rfl, Nat.le_of_ble_eq_true rfl⟩) hK hN hP hD hS hA (fun _ => rfl) 0 1 rfl rfl rfl hl.1 rfl (Nat.le_of_ble_eq_true rfl) ⟨Nat.zero_le _, Nat.zero_le _⟩ dX1_beginBlock_50 (fun u50 H locs hw50 hP hD hS => ?_)
      obtain ⟨q50, b50, rfl, hR50, hb50, hbn50⟩ := hw50
      have hP : PP G (rv G h q50 w) H := hP
      have hD : va_D A (rv G h q50 w) := hD
      refine lv_aload_n hx hb dX1_beginBlock_53 rfl (lv_at hl 1 rfl) ?_
      refine va_get (D := gD G) (ci := 1) (v := .int (q50.1 4)) (C := RX1) (T := TX1) (N := 10) hx hb hts hiX1 hown hK hP 0 rfl rfl 4 (by decide) k25 (fun _ h9 => h9) rfl dX1_beginBlock_54 ?_
      refine lv_if_ne (tgt := 99) hx hb dX1_beginBlock_57 (by decide) (fun c57 => ?_) (fun c57 => ?_)
      · skip
        exact W.vret hx hb hr (fun t ht hW => ⟨⟨(q50, w), rfl, ⟨_, b50, dp, rfl, by repeat (first | exact rel.refl _ | exact rel.mono (by assumption) (by decide) (by decide) | refine rel.I (by decide) ?_ | refine rel.A (by decide) ?_ | refine rel.trans ?_ (rel.mono (by assumption) (by decide) (by decide))), hb50, by omega, (hR50.1 8 (by decide)).trans ((hR11.1 8 (by decide)).trans (hdp)), by omega⟩, show PP G (rv G h q50 w) t.heap by rw [ht]; exact hP⟩, hS.F ht⟩) hS.2.2 dX1_beginBlock_99
      · skip
        refine lv_aload_n hx hb dX1_beginBlock_60 rfl (lv_at hl 1 rfl) ?_
        refine va_get (D := gD G) (ci := 1) (v := .int (q50.1 8)) (C := RX1) (T := TX1) (N := 10) hx hb hts hiX1 hown hK hP 0 rfl rfl 8 (by decide) k38 (fun _ h9 => h9) rfl dX1_beginBlock_61 ?_
        refine topE ((hR50.1 8 (by decide)).trans ((hR11.1 8 (by decide)).trans (hdp))) ?_
        refine lv_bipush (v := nI 48) hx hb dX1_beginBlock_64 (by decide) ?_
        refine lv_icmp_ge (tgt := 99) hx hb dX1_beginBlock_66 (by decide) (fun c66 => ?_) (fun c66 => ?_)
        · skip
          have n66 : 48 ≤ dp := (nI_leI (a := 48) (b := dp) (by omega) (by omega)).mp c66
          exact W.vret hx hb hr (fun t ht hW => ⟨⟨(q50, w), rfl, ⟨_, b50, dp, rfl, by repeat (first | exact rel.refl _ | exact rel.mono (by assumption) (by decide) (by decide) | refine rel.I (by decide) ?_ | refine rel.A (by decide) ?_ | refine rel.trans ?_ (rel.mono (by assumption) (by decide) (by decide))), hb50, by omega, (hR50.1 8 (by decide)).trans ((hR11.1 8 (by decide)).trans (hdp)), by omega⟩, show PP G (rv G h q50 w) t.heap by rw [ht]; exact hP⟩, hS.F ht⟩) hS.2.2 dX1_beginBlock_99
        · skip
          have n66 : ¬ (48 ≤ dp) := fun q9 => c66 ((nI_leI (a := 48) (b := dp) (by omega) (by omega)).mpr q9)
          refine lv_aload_n hx hb dX1_beginBlock_69 rfl (lv_at hl 1 rfl) ?_
          refine va_get (D := gD G) (ci := 1) (v := .ref (h 7)) (C := RX1) (T := TX1) (N := 10) hx hb hts hiX1 hown hK hP 0 rfl rfl 6 (by decide) k31 (fun _ h9 => h9) rfl dX1_beginBlock_70 ?_
          refine lv_aload_n hx hb dX1_beginBlock_73 rfl (lv_at hl 1 rfl) ?_
          refine va_get (D := gD G) (ci := 1) (v := .int (q50.1 8)) (C := RX1) (T := TX1) (N := 10) hx hb hts hiX1 hown hK hP 0 rfl rfl 8 (by decide) k38 (fun _ h9 => h9) rfl dX1_beginBlock_74 ?_
          refine topE ((hR50.1 8 (by decide)).trans ((hR11.1 8 (by decide)).trans (hdp))) ?_
          refine lv_iload_n hx hb dX1_beginBlock_77 rfl (lv_at hl 2 rfl) ?_
          refine zastN (f := q50.2 6) (n := 48) (k := dp) hx hb hK hP hD hS 2 rfl rfl (by omega) (by assumption) dX1_beginBlock_78 (fun H locs hP hD hS => ?_)
          have hP : PP G (rv G h (oA q50 6 (upd (q50.2 6) dp z1)) w) H := hP
          have hD : va_D A (rv G h (oA q50 6 (upd (q50.2 6) dp z1)) w) := hD
          refine lv_aload_n hx hb dX1_beginBlock_79 rfl (lv_at hl 1 rfl) ?_
          refine va_get (D := gD G) (ci := 1) (v := .ref (h 8)) (C := RX1) (T := TX1) (N := 10) hx hb hts hiX1 hown hK hP 0 rfl rfl 7 (by decide) k35 (fun _ h9 => h9) rfl dX1_beginBlock_80 ?_
          refine lv_aload_n hx hb dX1_beginBlock_83 rfl (lv_at hl 1 rfl) ?_
          refine va_get (D := gD G) (ci := 1) (v := .int (q50.1 8)) (C := RX1) (T := TX1) (N := 10) hx hb hts hiX1 hown hK hP 0 rfl rfl 8 (by decide) k38 (fun _ h9 => h9) rfl dX1_beginBlock_84 ?_
          refine topE ((hR50.1 8 (by decide)).trans ((hR11.1 8 (by decide)).trans (hdp))) ?_
          refine lv_iload_n hx hb dX1_beginBlock_87 rfl (lv_at hl 0 rfl) ?_
          refine iastN (f := q50.2 7) (n := 48) (k := dp) hx hb hK hP hD hS 3 rfl rfl (by omega) dX1_beginBlock_88 (fun H locs hP hD hS => ?_)
          have hP : PP G (rv G h (oA (oA q50 6 (upd (q50.2 6) dp z1)) 7 (upd (q50.2 7) dp r11)) w) H := hP
          have hD : va_D A (rv G h (oA (oA q50 6 (upd (q50.2 6) dp z1)) 7 (upd (q50.2 7) dp r11)) w) := hD
          refine lv_aload_n hx hb dX1_beginBlock_89 rfl (lv_at hl 1 rfl) ?_
          refine lv_dup hx hb dX1_beginBlock_90 rfl ?_
          refine va_get (D := gD G) (ci := 1) (v := .int (q50.1 8)) (C := RX1) (T := TX1) (N := 10) hx hb hts hiX1 hown hK hP 0 rfl rfl 8 (by decide) k38 (fun _ h9 => h9) rfl dX1_beginBlock_91 ?_
          refine topE ((hR50.1 8 (by decide)).trans ((hR11.1 8 (by decide)).trans (hdp))) ?_
          refine lv_iconst (v := nI 1) hx hb dX1_beginBlock_94 (by decide) ?_
          refine lv_iadd hx hb dX1_beginBlock_95 ?_
          refine topE (y := nI (dp + 1)) (nI_add dp 1) ?_
          refine va_put (D := gD G) (ci := 1) (v := .int (nI (dp + 1))) (ty := .int) (C := RX1) (T := TX1) (N := 10) hx hb hts hiX1 tyX1 tyX1_ok nmX1 hown hK hP hD hS 0 rfl rfl 8 (by decide) k38 (fun _ h9 => h9) rfl (by decide +kernel) (rfl) (rfl) (Nat.le_of_ble_eq_true rfl) dX1_beginBlock_96 (fun H locs hP hD hS => ?_)
          have hP : PP G (rv G h (oI (oA (oA q50 6 (upd (q50.2 6) dp z1)) 7 (upd (q50.2 7) dp r11)) 8 (nI (dp + 1))) w) H := hP
          have hD : va_D A (rv G h (oI (oA (oA q50 6 (upd (q50.2 6) dp z1)) 7 (upd (q50.2 7) dp r11)) 8 (nI (dp + 1))) w) := hD
          exact W.vret hx hb hr (fun t ht hW => ⟨⟨(oI (oA (oA q50 6 (upd (q50.2 6) dp z1)) 7 (upd (q50.2 7) dp r11)) 8 (nI (dp + 1)), w), rfl, ⟨_, b50, dp + 1, rfl, by repeat (first | exact rel.refl _ | exact rel.mono (by assumption) (by decide) (by decide) | refine rel.I (by decide) ?_ | refine rel.A (by decide) ?_ | refine rel.trans ?_ (rel.mono (by assumption) (by decide) (by decide))), hb50, by omega, rfl, by omega⟩, show PP G (rv G h (oI (oA (oA q50 6 (upd (q50.2 6) dp z1)) 7 (upd (q50.2 7) dp r11)) 8 (nI (dp + 1))) w) t.heap by rw [ht]; exact hP⟩, hS.F ht⟩) hS.2.2 dX1_beginBlock_99
    · skip
      refine lv_aload_n hx hb dX1_beginBlock_27 rfl (lv_at hl 1 rfl) ?_
      refine cRi (w := rv G h q11 w) (As := []) (rest := []) ⟨hx, hb, hml, hown, hts⟩ (mt_X1_takersAround l G h q11 w dp ((hR11.1 8 (by decide)).trans (hdp)) (by first | assumption | omega)) (cwV 0 hts gX1_beginBlock_X1_takersAround rfl rfl rfl (by decide +kernel) ⟨Nat.le_of_ble_eq_true rfl, Nat.le_of_ble_eq_true rfl⟩) hK hN hP 0 1 rfl rfl rfl hl.1 rfl (Nat.le_of_ble_eq_true rfl) ⟨Nat.zero_le _, Nat.zero_le _⟩ dX1_beginBlock_28 (fun r28 hw28 => ?_)
      refine lv_iload_n hx hb dX1_beginBlock_31 rfl (lv_at hl 0 rfl) ?_
      refine cSi (As := [.int r28, .int r11]) (rest := []) ⟨hx, hb, hml, hown, hts⟩ (mt_X3_holds l r28 r11) (va_cwS 2 hts gX1_beginBlock_X3_holds rfl rfl rfl (by decide +kernel) ⟨Nat.le_of_ble_eq_true rfl, Nat.le_of_ble_eq_true rfl⟩) rfl hl.1 rfl (Nat.le_of_ble_eq_true rfl) ⟨Nat.zero_le _, Nat.zero_le _⟩ dX1_beginBlock_32 (fun r32 hw32 => ?_)
      rcases hw32 with rfl | rfl
      · skip
        refine lv_if_eq (tgt := 47) hx hb dX1_beginBlock_35 (by decide) (fun c9 => absurd c9 (by decide)) (fun _ => ?_)
        refine lv_aload_n hx hb dX1_beginBlock_38 rfl (lv_at hl 1 rfl) ?_
        refine lv_iconst (v := nI 4) hx hb dX1_beginBlock_39 (by decide) ?_
        refine lv_aload_n hx hb dX1_beginBlock_40 rfl (lv_at hl 1 rfl) ?_
        refine va_get (D := gD G) (ci := 1) (v := .int (q11.1 3)) (C := RX1) (T := TX1) (N := 10) hx hb hts hiX1 hown hK hP 0 rfl rfl 3 (by decide) k22 (fun _ h9 => h9) rfl dX1_beginBlock_41 ?_
        refine cXv (As := [.int (nI 4), .int (q11.1 3)]) (rest := []) (S := oS × oS) (wa := rv G h q11 w) (w1 := fun v => rv G h v.1 v.2) ⟨hx, hb, hml, hown, hts⟩ (mt_X1_fail l G h _ q11 w (nI 4) (q11.1 3)) (cwV 2 hts gX1_beginBlock_X1_fail rfl rfl rfl (by decide +kernel) ⟨Nat.le_of_ble_eq_true rfl, Nat.le_of_ble_eq_true rfl⟩) hK hN hP hD hS hA (fun _ => rfl) 0 1 rfl rfl rfl hl.1 rfl (Nat.le_of_ble_eq_true rfl) ⟨Nat.zero_le _, Nat.zero_le _⟩ dX1_beginBlock_44 (fun u44 H locs hw44 hP hD hS => ?_)
        obtain ⟨q44, rfl, hR44⟩ := hw44
        have hP : PP G (rv G h q44 w) H := hP
        have hD : va_D A (rv G h q44 w) := hD
        refine lv_aload_n hx hb dX1_beginBlock_47 rfl (lv_at hl 1 rfl) ?_
        refine lv_bipush (v := nI 40) hx hb dX1_beginBlock_48 (by decide) ?_
        refine cXv (As := [.int (nI 40)]) (rest := []) (S := oS × oS) (wa := rv G h q44 w) (w1 := fun v => rv G h v.1 v.2) ⟨hx, hb, hml, hown, hts⟩ (mt_X1_expect l G h _ q44 w len b11 (nI 40) ((hR44.1 1 (by decide)).trans ((hR11.1 1 (by decide)).trans (hlen))) ((hR44.1 2 (by decide)).trans (hb11)) (by first | assumption | omega) (by first | assumption | omega) (by decide)) (cwV 1 hts gX1_beginBlock_X1_expect rfl rfl rfl (by decide +kernel) ⟨Nat.le_of_ble_eq_true rfl, Nat.le_of_ble_eq_true rfl⟩) hK hN hP hD hS hA (fun _ => rfl) 0 1 rfl rfl rfl hl.1 rfl (Nat.le_of_ble_eq_true rfl) ⟨Nat.zero_le _, Nat.zero_le _⟩ dX1_beginBlock_50 (fun u50 H locs hw50 hP hD hS => ?_)
        obtain ⟨q50, b50, rfl, hR50, hb50, hbn50⟩ := hw50
        have hP : PP G (rv G h q50 w) H := hP
        have hD : va_D A (rv G h q50 w) := hD
        refine lv_aload_n hx hb dX1_beginBlock_53 rfl (lv_at hl 1 rfl) ?_
        refine va_get (D := gD G) (ci := 1) (v := .int (q50.1 4)) (C := RX1) (T := TX1) (N := 10) hx hb hts hiX1 hown hK hP 0 rfl rfl 4 (by decide) k25 (fun _ h9 => h9) rfl dX1_beginBlock_54 ?_
        refine lv_if_ne (tgt := 99) hx hb dX1_beginBlock_57 (by decide) (fun c57 => ?_) (fun c57 => ?_)
        · skip
          exact W.vret hx hb hr (fun t ht hW => ⟨⟨(q50, w), rfl, ⟨_, b50, dp, rfl, by repeat (first | exact rel.refl _ | exact rel.mono (by assumption) (by decide) (by decide) | refine rel.I (by decide) ?_ | refine rel.A (by decide) ?_ | refine rel.trans ?_ (rel.mono (by assumption) (by decide) (by decide))), hb50, by omega, (hR50.1 8 (by decide)).trans ((hR44.1 8 (by decide)).trans ((hR11.1 8 (by decide)).trans (hdp))), by omega⟩, show PP G (rv G h q50 w) t.heap by rw [ht]; exact hP⟩, hS.F ht⟩) hS.2.2 dX1_beginBlock_99
        · skip
          refine lv_aload_n hx hb dX1_beginBlock_60 rfl (lv_at hl 1 rfl) ?_
          refine va_get (D := gD G) (ci := 1) (v := .int (q50.1 8)) (C := RX1) (T := TX1) (N := 10) hx hb hts hiX1 hown hK hP 0 rfl rfl 8 (by decide) k38 (fun _ h9 => h9) rfl dX1_beginBlock_61 ?_
          refine topE ((hR50.1 8 (by decide)).trans ((hR44.1 8 (by decide)).trans ((hR11.1 8 (by decide)).trans (hdp)))) ?_
          refine lv_bipush (v := nI 48) hx hb dX1_beginBlock_64 (by decide) ?_
          refine lv_icmp_ge (tgt := 99) hx hb dX1_beginBlock_66 (by decide) (fun c66 => ?_) (fun c66 => ?_)
          · skip
            have n66 : 48 ≤ dp := (nI_leI (a := 48) (b := dp) (by omega) (by omega)).mp c66
            exact W.vret hx hb hr (fun t ht hW => ⟨⟨(q50, w), rfl, ⟨_, b50, dp, rfl, by repeat (first | exact rel.refl _ | exact rel.mono (by assumption) (by decide) (by decide) | refine rel.I (by decide) ?_ | refine rel.A (by decide) ?_ | refine rel.trans ?_ (rel.mono (by assumption) (by decide) (by decide))), hb50, by omega, (hR50.1 8 (by decide)).trans ((hR44.1 8 (by decide)).trans ((hR11.1 8 (by decide)).trans (hdp))), by omega⟩, show PP G (rv G h q50 w) t.heap by rw [ht]; exact hP⟩, hS.F ht⟩) hS.2.2 dX1_beginBlock_99
          · skip
            have n66 : ¬ (48 ≤ dp) := fun q9 => c66 ((nI_leI (a := 48) (b := dp) (by omega) (by omega)).mpr q9)
            refine lv_aload_n hx hb dX1_beginBlock_69 rfl (lv_at hl 1 rfl) ?_
            refine va_get (D := gD G) (ci := 1) (v := .ref (h 7)) (C := RX1) (T := TX1) (N := 10) hx hb hts hiX1 hown hK hP 0 rfl rfl 6 (by decide) k31 (fun _ h9 => h9) rfl dX1_beginBlock_70 ?_
            refine lv_aload_n hx hb dX1_beginBlock_73 rfl (lv_at hl 1 rfl) ?_
            refine va_get (D := gD G) (ci := 1) (v := .int (q50.1 8)) (C := RX1) (T := TX1) (N := 10) hx hb hts hiX1 hown hK hP 0 rfl rfl 8 (by decide) k38 (fun _ h9 => h9) rfl dX1_beginBlock_74 ?_
            refine topE ((hR50.1 8 (by decide)).trans ((hR44.1 8 (by decide)).trans ((hR11.1 8 (by decide)).trans (hdp)))) ?_
            refine lv_iload_n hx hb dX1_beginBlock_77 rfl (lv_at hl 2 rfl) ?_
            refine zastN (f := q50.2 6) (n := 48) (k := dp) hx hb hK hP hD hS 2 rfl rfl (by omega) (by assumption) dX1_beginBlock_78 (fun H locs hP hD hS => ?_)
            have hP : PP G (rv G h (oA q50 6 (upd (q50.2 6) dp z1)) w) H := hP
            have hD : va_D A (rv G h (oA q50 6 (upd (q50.2 6) dp z1)) w) := hD
            refine lv_aload_n hx hb dX1_beginBlock_79 rfl (lv_at hl 1 rfl) ?_
            refine va_get (D := gD G) (ci := 1) (v := .ref (h 8)) (C := RX1) (T := TX1) (N := 10) hx hb hts hiX1 hown hK hP 0 rfl rfl 7 (by decide) k35 (fun _ h9 => h9) rfl dX1_beginBlock_80 ?_
            refine lv_aload_n hx hb dX1_beginBlock_83 rfl (lv_at hl 1 rfl) ?_
            refine va_get (D := gD G) (ci := 1) (v := .int (q50.1 8)) (C := RX1) (T := TX1) (N := 10) hx hb hts hiX1 hown hK hP 0 rfl rfl 8 (by decide) k38 (fun _ h9 => h9) rfl dX1_beginBlock_84 ?_
            refine topE ((hR50.1 8 (by decide)).trans ((hR44.1 8 (by decide)).trans ((hR11.1 8 (by decide)).trans (hdp)))) ?_
            refine lv_iload_n hx hb dX1_beginBlock_87 rfl (lv_at hl 0 rfl) ?_
            refine iastN (f := q50.2 7) (n := 48) (k := dp) hx hb hK hP hD hS 3 rfl rfl (by omega) dX1_beginBlock_88 (fun H locs hP hD hS => ?_)
            have hP : PP G (rv G h (oA (oA q50 6 (upd (q50.2 6) dp z1)) 7 (upd (q50.2 7) dp r11)) w) H := hP
            have hD : va_D A (rv G h (oA (oA q50 6 (upd (q50.2 6) dp z1)) 7 (upd (q50.2 7) dp r11)) w) := hD
            refine lv_aload_n hx hb dX1_beginBlock_89 rfl (lv_at hl 1 rfl) ?_
            refine lv_dup hx hb dX1_beginBlock_90 rfl ?_
            refine va_get (D := gD G) (ci := 1) (v := .int (q50.1 8)) (C := RX1) (T := TX1) (N := 10) hx hb hts hiX1 hown hK hP 0 rfl rfl 8 (by decide) k38 (fun _ h9 => h9) rfl dX1_beginBlock_91 ?_
            refine topE ((hR50.1 8 (by decide)).trans ((hR44.1 8 (by decide)).trans ((hR11.1 8 (by decide)).trans (hdp)))) ?_
            refine lv_iconst (v := nI 1) hx hb dX1_beginBlock_94 (by decide) ?_
            refine lv_iadd hx hb dX1_beginBlock_95 ?_
            refine topE (y := nI (dp + 1)) (nI_add dp 1) ?_
            refine va_put (D := gD G) (ci := 1) (v := .int (nI (dp + 1))) (ty := .int) (C := RX1) (T := TX1) (N := 10) hx hb hts hiX1 tyX1 tyX1_ok nmX1 hown hK hP hD hS 0 rfl rfl 8 (by decide) k38 (fun _ h9 => h9) rfl (by decide +kernel) (rfl) (rfl) (Nat.le_of_ble_eq_true rfl) dX1_beginBlock_96 (fun H locs hP hD hS => ?_)
            have hP : PP G (rv G h (oI (oA (oA q50 6 (upd (q50.2 6) dp z1)) 7 (upd (q50.2 7) dp r11)) 8 (nI (dp + 1))) w) H := hP
            have hD : va_D A (rv G h (oI (oA (oA q50 6 (upd (q50.2 6) dp z1)) 7 (upd (q50.2 7) dp r11)) 8 (nI (dp + 1))) w) := hD
            exact W.vret hx hb hr (fun t ht hW => ⟨⟨(oI (oA (oA q50 6 (upd (q50.2 6) dp z1)) 7 (upd (q50.2 7) dp r11)) 8 (nI (dp + 1)), w), rfl, ⟨_, b50, dp + 1, rfl, by repeat (first | exact rel.refl _ | exact rel.mono (by assumption) (by decide) (by decide) | refine rel.I (by decide) ?_ | refine rel.A (by decide) ?_ | refine rel.trans ?_ (rel.mono (by assumption) (by decide) (by decide))), hb50, by omega, rfl, by omega⟩, show PP G (rv G h (oI (oA (oA q50 6 (upd (q50.2 6) dp z1)) 7 (upd (q50.2 7) dp r11)) 8 (nI (dp + 1))) w) t.heap by rw [ht]; exact hP⟩, hS.F ht⟩) hS.2.2 dX1_beginBlock_99
      · skip
        refine lv_if_eq (tgt := 47) hx hb dX1_beginBlock_35 (by decide) (fun _ => ?_) (fun c9 => absurd (by decide) c9)
        refine lv_aload_n hx hb dX1_beginBlock_47 rfl (lv_at hl 1 rfl) ?_
        refine lv_bipush (v := nI 40) hx hb dX1_beginBlock_48 (by decide) ?_
        refine cXv (As := [.int (nI 40)]) (rest := []) (S := oS × oS) (wa := rv G h q11 w) (w1 := fun v => rv G h v.1 v.2) ⟨hx, hb, hml, hown, hts⟩ (mt_X1_expect l G h _ q11 w len b11 (nI 40) ((hR11.1 1 (by decide)).trans (hlen)) (hb11) (by first | assumption | omega) (by first | assumption | omega) (by decide)) (cwV 1 hts gX1_beginBlock_X1_expect rfl rfl rfl (by decide +kernel) ⟨Nat.le_of_ble_eq_true rfl, Nat.le_of_ble_eq_true rfl⟩) hK hN hP hD hS hA (fun _ => rfl) 0 1 rfl rfl rfl hl.1 rfl (Nat.le_of_ble_eq_true rfl) ⟨Nat.zero_le _, Nat.zero_le _⟩ dX1_beginBlock_50 (fun u50 H locs hw50 hP hD hS => ?_)
        obtain ⟨q50, b50, rfl, hR50, hb50, hbn50⟩ := hw50
        have hP : PP G (rv G h q50 w) H := hP
        have hD : va_D A (rv G h q50 w) := hD
        refine lv_aload_n hx hb dX1_beginBlock_53 rfl (lv_at hl 1 rfl) ?_
        refine va_get (D := gD G) (ci := 1) (v := .int (q50.1 4)) (C := RX1) (T := TX1) (N := 10) hx hb hts hiX1 hown hK hP 0 rfl rfl 4 (by decide) k25 (fun _ h9 => h9) rfl dX1_beginBlock_54 ?_
        refine lv_if_ne (tgt := 99) hx hb dX1_beginBlock_57 (by decide) (fun c57 => ?_) (fun c57 => ?_)
        · skip
          exact W.vret hx hb hr (fun t ht hW => ⟨⟨(q50, w), rfl, ⟨_, b50, dp, rfl, by repeat (first | exact rel.refl _ | exact rel.mono (by assumption) (by decide) (by decide) | refine rel.I (by decide) ?_ | refine rel.A (by decide) ?_ | refine rel.trans ?_ (rel.mono (by assumption) (by decide) (by decide))), hb50, by omega, (hR50.1 8 (by decide)).trans ((hR11.1 8 (by decide)).trans (hdp)), by omega⟩, show PP G (rv G h q50 w) t.heap by rw [ht]; exact hP⟩, hS.F ht⟩) hS.2.2 dX1_beginBlock_99
        · skip
          refine lv_aload_n hx hb dX1_beginBlock_60 rfl (lv_at hl 1 rfl) ?_
          refine va_get (D := gD G) (ci := 1) (v := .int (q50.1 8)) (C := RX1) (T := TX1) (N := 10) hx hb hts hiX1 hown hK hP 0 rfl rfl 8 (by decide) k38 (fun _ h9 => h9) rfl dX1_beginBlock_61 ?_
          refine topE ((hR50.1 8 (by decide)).trans ((hR11.1 8 (by decide)).trans (hdp))) ?_
          refine lv_bipush (v := nI 48) hx hb dX1_beginBlock_64 (by decide) ?_
          refine lv_icmp_ge (tgt := 99) hx hb dX1_beginBlock_66 (by decide) (fun c66 => ?_) (fun c66 => ?_)
          · skip
            have n66 : 48 ≤ dp := (nI_leI (a := 48) (b := dp) (by omega) (by omega)).mp c66
            exact W.vret hx hb hr (fun t ht hW => ⟨⟨(q50, w), rfl, ⟨_, b50, dp, rfl, by repeat (first | exact rel.refl _ | exact rel.mono (by assumption) (by decide) (by decide) | refine rel.I (by decide) ?_ | refine rel.A (by decide) ?_ | refine rel.trans ?_ (rel.mono (by assumption) (by decide) (by decide))), hb50, by omega, (hR50.1 8 (by decide)).trans ((hR11.1 8 (by decide)).trans (hdp)), by omega⟩, show PP G (rv G h q50 w) t.heap by rw [ht]; exact hP⟩, hS.F ht⟩) hS.2.2 dX1_beginBlock_99
          · skip
            have n66 : ¬ (48 ≤ dp) := fun q9 => c66 ((nI_leI (a := 48) (b := dp) (by omega) (by omega)).mpr q9)
            refine lv_aload_n hx hb dX1_beginBlock_69 rfl (lv_at hl 1 rfl) ?_
            refine va_get (D := gD G) (ci := 1) (v := .ref (h 7)) (C := RX1) (T := TX1) (N := 10) hx hb hts hiX1 hown hK hP 0 rfl rfl 6 (by decide) k31 (fun _ h9 => h9) rfl dX1_beginBlock_70 ?_
            refine lv_aload_n hx hb dX1_beginBlock_73 rfl (lv_at hl 1 rfl) ?_
            refine va_get (D := gD G) (ci := 1) (v := .int (q50.1 8)) (C := RX1) (T := TX1) (N := 10) hx hb hts hiX1 hown hK hP 0 rfl rfl 8 (by decide) k38 (fun _ h9 => h9) rfl dX1_beginBlock_74 ?_
            refine topE ((hR50.1 8 (by decide)).trans ((hR11.1 8 (by decide)).trans (hdp))) ?_
            refine lv_iload_n hx hb dX1_beginBlock_77 rfl (lv_at hl 2 rfl) ?_
            refine zastN (f := q50.2 6) (n := 48) (k := dp) hx hb hK hP hD hS 2 rfl rfl (by omega) (by assumption) dX1_beginBlock_78 (fun H locs hP hD hS => ?_)
            have hP : PP G (rv G h (oA q50 6 (upd (q50.2 6) dp z1)) w) H := hP
            have hD : va_D A (rv G h (oA q50 6 (upd (q50.2 6) dp z1)) w) := hD
            refine lv_aload_n hx hb dX1_beginBlock_79 rfl (lv_at hl 1 rfl) ?_
            refine va_get (D := gD G) (ci := 1) (v := .ref (h 8)) (C := RX1) (T := TX1) (N := 10) hx hb hts hiX1 hown hK hP 0 rfl rfl 7 (by decide) k35 (fun _ h9 => h9) rfl dX1_beginBlock_80 ?_
            refine lv_aload_n hx hb dX1_beginBlock_83 rfl (lv_at hl 1 rfl) ?_
            refine va_get (D := gD G) (ci := 1) (v := .int (q50.1 8)) (C := RX1) (T := TX1) (N := 10) hx hb hts hiX1 hown hK hP 0 rfl rfl 8 (by decide) k38 (fun _ h9 => h9) rfl dX1_beginBlock_84 ?_
            refine topE ((hR50.1 8 (by decide)).trans ((hR11.1 8 (by decide)).trans (hdp))) ?_
            refine lv_iload_n hx hb dX1_beginBlock_87 rfl (lv_at hl 0 rfl) ?_
            refine iastN (f := q50.2 7) (n := 48) (k := dp) hx hb hK hP hD hS 3 rfl rfl (by omega) dX1_beginBlock_88 (fun H locs hP hD hS => ?_)
            have hP : PP G (rv G h (oA (oA q50 6 (upd (q50.2 6) dp z1)) 7 (upd (q50.2 7) dp r11)) w) H := hP
            have hD : va_D A (rv G h (oA (oA q50 6 (upd (q50.2 6) dp z1)) 7 (upd (q50.2 7) dp r11)) w) := hD
            refine lv_aload_n hx hb dX1_beginBlock_89 rfl (lv_at hl 1 rfl) ?_
            refine lv_dup hx hb dX1_beginBlock_90 rfl ?_
            refine va_get (D := gD G) (ci := 1) (v := .int (q50.1 8)) (C := RX1) (T := TX1) (N := 10) hx hb hts hiX1 hown hK hP 0 rfl rfl 8 (by decide) k38 (fun _ h9 => h9) rfl dX1_beginBlock_91 ?_
            refine topE ((hR50.1 8 (by decide)).trans ((hR11.1 8 (by decide)).trans (hdp))) ?_
            refine lv_iconst (v := nI 1) hx hb dX1_beginBlock_94 (by decide) ?_
            refine lv_iadd hx hb dX1_beginBlock_95 ?_
            refine topE (y := nI (dp + 1)) (nI_add dp 1) ?_
            refine va_put (D := gD G) (ci := 1) (v := .int (nI (dp + 1))) (ty := .int) (C := RX1) (T := TX1) (N := 10) hx hb hts hiX1 tyX1 tyX1_ok nmX1 hown hK hP hD hS 0 rfl rfl 8 (by decide) k38 (fun _ h9 => h9) rfl (by decide +kernel) (rfl) (rfl) (Nat.le_of_ble_eq_true rfl) dX1_beginBlock_96 (fun H locs hP hD hS => ?_)
            have hP : PP G (rv G h (oI (oA (oA q50 6 (upd (q50.2 6) dp z1)) 7 (upd (q50.2 7) dp r11)) 8 (nI (dp + 1))) w) H := hP
            have hD : va_D A (rv G h (oI (oA (oA q50 6 (upd (q50.2 6) dp z1)) 7 (upd (q50.2 7) dp r11)) 8 (nI (dp + 1))) w) := hD
            exact W.vret hx hb hr (fun t ht hW => ⟨⟨(oI (oA (oA q50 6 (upd (q50.2 6) dp z1)) 7 (upd (q50.2 7) dp r11)) 8 (nI (dp + 1)), w), rfl, ⟨_, b50, dp + 1, rfl, by repeat (first | exact rel.refl _ | exact rel.mono (by assumption) (by decide) (by decide) | refine rel.I (by decide) ?_ | refine rel.A (by decide) ?_ | refine rel.trans ?_ (rel.mono (by assumption) (by decide) (by decide))), hb50, by omega, rfl, by omega⟩, show PP G (rv G h (oI (oA (oA q50 6 (upd (q50.2 6) dp z1)) 7 (upd (q50.2 7) dp r11)) 8 (nI (dp + 1))) w) t.heap by rw [ht]; exact hP⟩, hS.F ht⟩) hS.2.2 dX1_beginBlock_99
set_option maxHeartbeats 1000000 in
set_option maxRecDepth 100000 in
theorem mt_X1_readOneLine (l : Launch) (G : gG) (h : Nat → Nat) (sz : Nat) (rd : oS) (w : oS) (len : Nat) (a0 : Nat) (dp : Nat) (nl : Nat) (x : Int32) (hlen : rd.1 1 = nI len) (ha0 : rd.1 2 = nI a0) (hdp : rd.1 8 = nI dp) (hnl : w.1 5 = nI nl) (hl240 : len ≤ 240) (hAl : a0 < len) (hd48 : dp ≤ 48) (hnl120 : nl ≤ 120) : Met l yX1_readOneLine wsX1_readOneLine ({ frames := 3, cells := 0, slots := 0, locals := 73 }) (preW G (rv G h rd w) sz [.ref (h 0), .int x]) (va_Qv (fun (v : oS × oS) => ∃ q p b n, v = (q, p) ∧ rel [2, 4, 5] [] rd q ∧ q.1 2 = nI b ∧ b ≤ len ∧ rel [5] [6, 7, 8] w p ∧ p.1 5 = nI n ∧ n ≤ 120) (fun v t => PP G (rv G h v.1 v.2) t.heap) (va_A (rv G h rd w) sz)) 0 0 (va_A (rv G h rd w) sz) := by
  refine Met.ofW (cc := cX1_readOneLine) (maxL := 4) (ret := none) (by decide) rfl ?_
  intro p e s m args below meth c s₁ B hml hv
  obtain ⟨ha, hsz, hP, hK, hN, hD0⟩ := hv
  subst ha
  have hx := B.exec
  have hb := B.bytes
  have hr := B.returns
  have hts := atoms_spec (ws := wsX1_readOneLine) B.pre
  have hown : s.vm.findClass RX1 = some m.cls := findClass_of_methodNamed B.named
  have hlocks := B.notSynchronized
  subst hsz
  have hD := hD0.self (sz := s.heap.size)
  generalize hAe : va_A (rv G h rd w) s.heap.size = A at hD ⊢
  have hA : ∀ q : Nat, s.heap.size ≤ q → A q := fun q h => by rw [← hAe]; exact Or.inr h
  clear hAe hD0
  have hS : va_S A s.heap s.heap [] := va_S.rf
  have hiX1 : ∀ w ∈ wsX10, w ∈ wsX1_readOneLine := by decide +kernel
  have k44 := hts (.fieldLink RX1 44 "WovenHistory$Reader" "woven" "LWovenHistory$Weave;") (List.mem_of_getElem? (i := 1) rfl)
  have hiX3 : ∀ w ∈ wsX30, w ∈ wsX1_readOneLine := by decide +kernel
  have k123 : (Cond.fieldLinkNest "WovenHistory$Reader" 123 "WovenHistory$Weave" "lines" "I" "WovenHistory").before _ s = true := va_Nw.use (A := ([.ref (h 0), .int x] : List Value).toArray) rfl (hN.1 ("WovenHistory$Reader", 123, "WovenHistory$Weave", "lines", "I") (List.mem_of_getElem? (i := 14) rfl))
  have k19 := hts (.fieldLink RX1 19 "WovenHistory$Reader" "at" "I") (List.mem_of_getElem? (i := 2) rfl)
  have hl := lv_entry ([.ref (h 0), .int x]) (n := 4) (Nat.le_of_ble_eq_true rfl)
  rw [lg_entry_eq]
  generalize (lg_sl ([.ref (h 0), .int x]) ++ List.replicate (4 - (lg_sl ([.ref (h 0), .int x])).length) Slot.unset).toArray = ls at hl ⊢
  have hl : lv_has ls 4 [(0, .ref (h 0)), (1, .int x)] := hl
  refine lv_aload_n hx hb dX1_readOneLine_0 rfl (lv_at hl 0 rfl) ?_
  refine cRi (w := rv G h rd w) (As := []) (rest := []) ⟨hx, hb, hml, hown, hts⟩ (mt_X1_bringerAround l G h rd w dp (hdp) (by first | assumption | omega)) (cwV 0 hts gX1_readOneLine_X1_bringerAround rfl rfl rfl (by decide +kernel) ⟨Nat.le_of_ble_eq_true rfl, Nat.le_of_ble_eq_true rfl⟩) hK hN hP 0 1 rfl rfl rfl hl.1 rfl (Nat.le_of_ble_eq_true rfl) ⟨Nat.zero_le _, Nat.zero_le _⟩ dX1_readOneLine_1 (fun r1 hw1 => ?_)
  refine lv_istore_n (lv' := [(2, .int r1), (0, .ref (h 0)), (1, .int x)]) hx hb dX1_readOneLine_4 rfl hl (by decide) rfl (fun ls hl => ?_)
  refine lv_aload_n hx hb dX1_readOneLine_5 rfl (lv_at hl 1 rfl) ?_
  refine cRi (w := rv G h rd w) (As := []) (rest := []) ⟨hx, hb, hml, hown, hts⟩ (mt_X1_takersAround l G h rd w dp (hdp) (by first | assumption | omega)) (cwV 0 hts gX1_readOneLine_X1_takersAround rfl rfl rfl (by decide +kernel) ⟨Nat.le_of_ble_eq_true rfl, Nat.le_of_ble_eq_true rfl⟩) hK hN hP 0 1 rfl rfl rfl hl.1 rfl (Nat.le_of_ble_eq_true rfl) ⟨Nat.zero_le _, Nat.zero_le _⟩ dX1_readOneLine_6 (fun r6 hw6 => ?_)
  refine lv_istore_n (lv' := [(3, .int r6), (2, .int r1), (0, .ref (h 0)), (1, .int x)]) hx hb dX1_readOneLine_9 rfl hl (by decide) rfl (fun ls hl => ?_)
  refine lv_aload_n hx hb dX1_readOneLine_10 rfl (lv_at hl 2 rfl) ?_
  refine va_get (D := gD G) (ci := 1) (v := .ref (h 10)) (C := RX1) (T := TX1) (N := 10) hx hb hts hiX1 hown hK hP 0 rfl rfl 9 (by decide) k44 (fun _ h9 => h9) rfl dX1_readOneLine_11 ?_
  refine va_getN (D := gD G) (ci := 3) (v := .int (w.1 5)) (C := RX3) (T := TX3) (N := 9) hx hb hts hiX3 hown hK hP 4 rfl rfl 5 (by decide) k123 (fun _ h9 => h9) rfl dX1_readOneLine_14 ?_
  refine topE hnl ?_
  refine lv_bipush (v := nI 120) hx hb dX1_readOneLine_17 (by decide) ?_
  refine lv_icmp_lt (tgt := 34) hx hb dX1_readOneLine_19 (by decide) (fun c19 => ?_) (fun c19 => ?_)
  · skip
    have n19 : nl < 120 := (nI_ltI (a := nl) (b := 120) (by omega) (by omega)).mp c19
    refine lv_iload_n hx hb dX1_readOneLine_34 rfl (lv_at hl 0 rfl) ?_
    refine lv_iload_n hx hb dX1_readOneLine_35 rfl (lv_at hl 1 rfl) ?_
    refine cSi (As := [.int r1]) (rest := [.int r6]) ⟨hx, hb, hml, hown, hts⟩ (mt_X1_upTo l r1) (va_cwS 1 hts gX1_readOneLine_X1_upTo rfl rfl rfl (by decide +kernel) ⟨Nat.le_of_ble_eq_true rfl, Nat.le_of_ble_eq_true rfl⟩) rfl hl.1 rfl (Nat.le_of_ble_eq_true rfl) ⟨Nat.zero_le _, Nat.zero_le _⟩ dX1_readOneLine_36 (fun r36 hw36 => ?_)
    refine lv_iand hx hb dX1_readOneLine_39 ?_
    refine lv_if_eq (tgt := 55) hx hb dX1_readOneLine_40 (by decide) (fun c40 => ?_) (fun c40 => ?_)
    · skip
      refine lv_aload_n hx hb dX1_readOneLine_55 rfl (lv_at hl 2 rfl) ?_
      refine va_get (D := gD G) (ci := 1) (v := .ref (h 10)) (C := RX1) (T := TX1) (N := 10) hx hb hts hiX1 hown hK hP 0 rfl rfl 9 (by decide) k44 (fun _ h9 => h9) rfl dX1_readOneLine_56 ?_
      refine lv_aload_n hx hb dX1_readOneLine_59 rfl (lv_at hl 2 rfl) ?_
      refine va_get (D := gD G) (ci := 1) (v := .ref (h 10)) (C := RX1) (T := TX1) (N := 10) hx hb hts hiX1 hown hK hP 0 rfl rfl 9 (by decide) k44 (fun _ h9 => h9) rfl dX1_readOneLine_60 ?_
      refine va_getN (D := gD G) (ci := 3) (v := .int (w.1 5)) (C := RX3) (T := TX3) (N := 9) hx hb hts hiX3 hown hK hP 4 rfl rfl 5 (by decide) k123 (fun _ h9 => h9) rfl dX1_readOneLine_63 ?_
      refine topE hnl ?_
      refine lv_iload_n hx hb dX1_readOneLine_66 rfl (lv_at hl 3 rfl) ?_
      refine lv_iload_n hx hb dX1_readOneLine_67 rfl (lv_at hl 1 rfl) ?_
      refine lv_iload_n hx hb dX1_readOneLine_68 rfl (lv_at hl 0 rfl) ?_
      refine cWv (As := [.int (nI nl), .int x, .int r1, .int r6]) (rest := []) (S := oS) (wa := rv G h rd w) (wc := wv G (fun k => h (10 + k)) w) (w1 := fun v => wv G (fun k => h (10 + k)) v) (wa' := fun v => rv G h rd v) ⟨hx, hb, hml, hown, hts⟩ (mt_X3_insertLine l G (fun k => h (10 + k)) _ w nl (nI nl) x r1 r6 (hnl) (by first | assumption | omega)) (cwV 4 hts gX1_readOneLine_X3_insertLine rfl rfl rfl (by decide +kernel) ⟨Nat.le_of_ble_eq_true rfl, Nat.le_of_ble_eq_true rfl⟩) hK hN hP hD hS hA [4, 5, 6, 7, 8, 9, 10, 11] rfl (by decide) rfl (fun _ => rfl) (fun _ => rfl) (fun _ => rfl) 0 3 rfl rfl rfl hl.1 rfl (Nat.le_of_ble_eq_true rfl) ⟨Nat.zero_le _, Nat.zero_le _⟩ dX1_readOneLine_69 (fun u69 H locs hw69 hP hD hS => ?_)
      obtain ⟨hR69, n69, hn69, en69⟩ := hw69
      have hP : PP G (rv G h rd u69) H := hP
      have hD : va_D A (rv G h rd u69) := hD
      refine lv_aload_n hx hb dX1_readOneLine_72 rfl (lv_at hl 2 rfl) ?_
      refine lv_dup hx hb dX1_readOneLine_73 rfl ?_
      refine va_get (D := gD G) (ci := 1) (v := .int (rd.1 2)) (C := RX1) (T := TX1) (N := 10) hx hb hts hiX1 hown hK hP 0 rfl rfl 2 (by decide) k19 (fun _ h9 => h9) rfl dX1_readOneLine_74 ?_
      refine topE ha0 ?_
      refine lv_iconst (v := nI 1) hx hb dX1_readOneLine_77 (by decide) ?_
      refine lv_iadd hx hb dX1_readOneLine_78 ?_
      refine topE (y := nI (a0 + 1)) (nI_add a0 1) ?_
      refine va_put (D := gD G) (ci := 1) (v := .int (nI (a0 + 1))) (ty := .int) (C := RX1) (T := TX1) (N := 10) hx hb hts hiX1 tyX1 tyX1_ok nmX1 hown hK hP hD hS 0 rfl rfl 2 (by decide) k19 (fun _ h9 => h9) rfl (by decide +kernel) (rfl) (rfl) (Nat.le_of_ble_eq_true rfl) dX1_readOneLine_79 (fun H locs hP hD hS => ?_)
      have hP : PP G (rv G h (oI rd 2 (nI (a0 + 1))) u69) H := hP
      have hD : va_D A (rv G h (oI rd 2 (nI (a0 + 1))) u69) := hD
      exact W.vret hx hb hr (fun t ht hW => ⟨⟨(oI rd 2 (nI (a0 + 1)), u69), rfl, ⟨_, _, a0 + 1, n69, rfl, by repeat (first | exact rel.refl _ | exact rel.mono (by assumption) (by decide) (by decide) | refine rel.I (by decide) ?_ | refine rel.A (by decide) ?_ | refine rel.trans ?_ (rel.mono (by assumption) (by decide) (by decide))), rfl, by omega, by repeat (first | exact rel.refl _ | exact rel.mono (by assumption) (by decide) (by decide) | refine rel.I (by decide) ?_ | refine rel.A (by decide) ?_ | refine rel.trans ?_ (rel.mono (by assumption) (by decide) (by decide))), en69, by omega⟩, show PP G (rv G h (oI rd 2 (nI (a0 + 1))) u69) t.heap by rw [ht]; exact hP⟩, hS.F ht⟩) hS.2.2 dX1_readOneLine_82
    · skip
      refine lv_aload_n hx hb dX1_readOneLine_43 rfl (lv_at hl 2 rfl) ?_
      refine lv_iconst (v := nI 4) hx hb dX1_readOneLine_44 (by decide) ?_
      refine lv_aload_n hx hb dX1_readOneLine_45 rfl (lv_at hl 2 rfl) ?_
      refine va_get (D := gD G) (ci := 1) (v := .int (rd.1 2)) (C := RX1) (T := TX1) (N := 10) hx hb hts hiX1 hown hK hP 0 rfl rfl 2 (by decide) k19 (fun _ h9 => h9) rfl dX1_readOneLine_46 ?_
      refine topE ha0 ?_
      refine cXv (As := [.int (nI 4), .int (nI a0)]) (rest := []) (S := oS × oS) (wa := rv G h rd w) (w1 := fun v => rv G h v.1 v.2) ⟨hx, hb, hml, hown, hts⟩ (mt_X1_fail l G h _ rd w (nI 4) (nI a0)) (cwV 2 hts gX1_readOneLine_X1_fail rfl rfl rfl (by decide +kernel) ⟨Nat.le_of_ble_eq_true rfl, Nat.le_of_ble_eq_true rfl⟩) hK hN hP hD hS hA (fun _ => rfl) 0 1 rfl rfl rfl hl.1 rfl (Nat.le_of_ble_eq_true rfl) ⟨Nat.zero_le _, Nat.zero_le _⟩ dX1_readOneLine_49 (fun u49 H locs hw49 hP hD hS => ?_)
      obtain ⟨q49, rfl, hR49⟩ := hw49
      have hP : PP G (rv G h q49 w) H := hP
      have hD : va_D A (rv G h q49 w) := hD
      refine lv_goto (tgt := 82) hx hb dX1_readOneLine_52 (by decide) ?_
      exact W.vret hx hb hr (fun t ht hW => ⟨⟨(q49, w), rfl, ⟨_, _, a0, nl, rfl, by repeat (first | exact rel.refl _ | exact rel.mono (by assumption) (by decide) (by decide) | refine rel.I (by decide) ?_ | refine rel.A (by decide) ?_ | refine rel.trans ?_ (rel.mono (by assumption) (by decide) (by decide))), (hR49.1 2 (by decide)).trans (ha0), by omega, by repeat (first | exact rel.refl _ | exact rel.mono (by assumption) (by decide) (by decide) | refine rel.I (by decide) ?_ | refine rel.A (by decide) ?_ | refine rel.trans ?_ (rel.mono (by assumption) (by decide) (by decide))), hnl, by omega⟩, show PP G (rv G h q49 w) t.heap by rw [ht]; exact hP⟩, hS.F ht⟩) hS.2.2 dX1_readOneLine_82
  · skip
    have n19 : ¬ (nl < 120) := fun q9 => c19 ((nI_ltI (a := nl) (b := 120) (by omega) (by omega)).mpr q9)
    refine lv_aload_n hx hb dX1_readOneLine_22 rfl (lv_at hl 2 rfl) ?_
    refine lv_iconst (v := nI 3) hx hb dX1_readOneLine_23 (by decide) ?_
    refine lv_aload_n hx hb dX1_readOneLine_24 rfl (lv_at hl 2 rfl) ?_
    refine va_get (D := gD G) (ci := 1) (v := .int (rd.1 2)) (C := RX1) (T := TX1) (N := 10) hx hb hts hiX1 hown hK hP 0 rfl rfl 2 (by decide) k19 (fun _ h9 => h9) rfl dX1_readOneLine_25 ?_
    refine topE ha0 ?_
    refine cXv (As := [.int (nI 3), .int (nI a0)]) (rest := []) (S := oS × oS) (wa := rv G h rd w) (w1 := fun v => rv G h v.1 v.2) ⟨hx, hb, hml, hown, hts⟩ (mt_X1_fail l G h _ rd w (nI 3) (nI a0)) (cwV 2 hts gX1_readOneLine_X1_fail rfl rfl rfl (by decide +kernel) ⟨Nat.le_of_ble_eq_true rfl, Nat.le_of_ble_eq_true rfl⟩) hK hN hP hD hS hA (fun _ => rfl) 0 1 rfl rfl rfl hl.1 rfl (Nat.le_of_ble_eq_true rfl) ⟨Nat.zero_le _, Nat.zero_le _⟩ dX1_readOneLine_28 (fun u28 H locs hw28 hP hD hS => ?_)
    obtain ⟨q28, rfl, hR28⟩ := hw28
    have hP : PP G (rv G h q28 w) H := hP
    have hD : va_D A (rv G h q28 w) := hD
    refine lv_goto (tgt := 82) hx hb dX1_readOneLine_31 (by decide) ?_
    exact W.vret hx hb hr (fun t ht hW => ⟨⟨(q28, w), rfl, ⟨_, _, a0, nl, rfl, by repeat (first | exact rel.refl _ | exact rel.mono (by assumption) (by decide) (by decide) | refine rel.I (by decide) ?_ | refine rel.A (by decide) ?_ | refine rel.trans ?_ (rel.mono (by assumption) (by decide) (by decide))), (hR28.1 2 (by decide)).trans (ha0), by omega, by repeat (first | exact rel.refl _ | exact rel.mono (by assumption) (by decide) (by decide) | refine rel.I (by decide) ?_ | refine rel.A (by decide) ?_ | refine rel.trans ?_ (rel.mono (by assumption) (by decide) (by decide))), hnl, by omega⟩, show PP G (rv G h q28 w) t.heap by rw [ht]; exact hP⟩, hS.F ht⟩) hS.2.2 dX1_readOneLine_82
set_option maxHeartbeats 1000000 in
set_option maxRecDepth 100000 in
theorem mt_X1_readItem (l : Launch) (G : gG) (h : Nat → Nat) (sz : Nat) (rd : oS) (w : oS) (len : Nat) (a0 : Nat) (dp : Nat) (nv : Nat) (nl : Nat) (x : Int32) (hlen : rd.1 1 = nI len) (ha0 : rd.1 2 = nI a0) (hdp : rd.1 8 = nI dp) (hnv : w.1 0 = nI nv) (hnl : w.1 5 = nI nl) (hl240 : len ≤ 240) (hAn : a0 ≤ len) (hd48 : dp ≤ 48) (hnv24 : nv ≤ 24) (hnl120 : nl ≤ 120) (hax : ¬ x = -1 → a0 < len) : Met l yX1_readItem wsX1_readItem ({ frames := 4, cells := 0, slots := 0, locals := 96 }) (preW G (rv G h rd w) sz [.ref (h 0), .int x]) (va_Qv (fun (v : oS × oS) => ∃ q p b d n, v = (q, p) ∧ rel [2, 3, 4, 5, 8] [6, 7] rd q ∧ q.1 2 = nI b ∧ b ≤ len ∧ q.1 8 = nI d ∧ d ≤ 48 ∧ rel [5] [6, 7, 8] w p ∧ p.1 5 = nI n ∧ n ≤ 120) (fun v t => PP G (rv G h v.1 v.2) t.heap) (va_A (rv G h rd w) sz)) 0 0 (va_A (rv G h rd w) sz) := by
  refine Met.ofW (cc := cX1_readItem) (maxL := 2) (ret := none) (by decide) rfl ?_
  intro p e s m args below meth c s₁ B hml hv
  obtain ⟨ha, hsz, hP, hK, hN, hD0⟩ := hv
  subst ha
  have hx := B.exec
  have hb := B.bytes
  have hr := B.returns
  have hts := atoms_spec (ws := wsX1_readItem) B.pre
  have hown : s.vm.findClass RX1 = some m.cls := findClass_of_methodNamed B.named
  have hlocks := B.notSynchronized
  subst hsz
  have hD := hD0.self (sz := s.heap.size)
  generalize hAe : va_A (rv G h rd w) s.heap.size = A at hD ⊢
  have hA : ∀ q : Nat, s.heap.size ≤ q → A q := fun q h => by rw [← hAe]; exact Or.inr h
  clear hAe hD0
  have hS : va_S A s.heap s.heap [] := va_S.rf
  have hiX1 : ∀ w ∈ wsX10, w ∈ wsX1_readItem := by decide +kernel
  have k38 := hts (.fieldLink RX1 38 "WovenHistory$Reader" "depth" "I") (List.mem_of_getElem? (i := 1) rfl)
  have k19 := hts (.fieldLink RX1 19 "WovenHistory$Reader" "at" "I") (List.mem_of_getElem? (i := 2) rfl)
  have hl := lv_entry ([.ref (h 0), .int x]) (n := 2) (Nat.le_of_ble_eq_true rfl)
  rw [lg_entry_eq]
  generalize (lg_sl ([.ref (h 0), .int x]) ++ List.replicate (2 - (lg_sl ([.ref (h 0), .int x])).length) Slot.unset).toArray = ls at hl ⊢
  have hl : lv_has ls 2 [(0, .ref (h 0)), (1, .int x)] := hl
  refine lv_iload_n hx hb dX1_readItem_0 rfl (lv_at hl 1 rfl) ?_
  refine lv_bipush (v := nI 105) hx hb dX1_readItem_1 (by decide) ?_
  refine lv_icmp_eq (tgt := 12) hx hb dX1_readItem_3 (by decide) (fun c3 => ?_) (fun c3 => ?_)
  · skip
    have hAl : a0 < len := hax (fun q => absurd (c3.symm.trans q) (by decide))
    refine lv_aload_n hx hb dX1_readItem_12 rfl (lv_at hl 0 rfl) ?_
    refine lv_iload_n hx hb dX1_readItem_13 rfl (lv_at hl 1 rfl) ?_
    refine lv_bipush (v := nI 105) hx hb dX1_readItem_14 (by decide) ?_
    refine lv_icmp_ne (tgt := 23) hx hb dX1_readItem_16 (by decide) (fun c16 => ?_) (fun c16 => ?_)
    · skip
      refine lv_iconst (v := nI 0) hx hb dX1_readItem_23 (by decide) ?_
      refine cXv (As := [.int (nI 0)]) (rest := []) (S := oS × oS) (wa := rv G h rd w) (w1 := fun v => rv G h v.1 v.2) ⟨hx, hb, hml, hown, hts⟩ (mt_X1_beginBlock l G h _ rd w len a0 dp nv (nI 0) (hlen) (ha0) (hdp) (hnv) (by first | assumption | omega) (by first | assumption | omega) (by first | assumption | omega) (by first | assumption | omega) (by decide)) (cwV 1 hts gX1_readItem_X1_beginBlock rfl rfl rfl (by decide +kernel) ⟨Nat.le_of_ble_eq_true rfl, Nat.le_of_ble_eq_true rfl⟩) hK hN hP hD hS hA (fun _ => rfl) 0 1 rfl rfl rfl hl.1 rfl (Nat.le_of_ble_eq_true rfl) ⟨Nat.zero_le _, Nat.zero_le _⟩ dX1_readItem_24 (fun u24 H locs hw24 hP hD hS => ?_)
      obtain ⟨q24, b24, d24, rfl, hR24, hb24, hbn24, hd24, hdn24⟩ := hw24
      have hP : PP G (rv G h q24 w) H := hP
      have hD : va_D A (rv G h q24 w) := hD
      refine lv_goto (tgt := 98) hx hb dX1_readItem_27 (by decide) ?_
      exact W.vret hx hb hr (fun t ht hW => ⟨⟨(q24, w), rfl, ⟨_, _, b24, d24, nl, rfl, by repeat (first | exact rel.refl _ | exact rel.mono (by assumption) (by decide) (by decide) | refine rel.I (by decide) ?_ | refine rel.A (by decide) ?_ | refine rel.trans ?_ (rel.mono (by assumption) (by decide) (by decide))), hb24, by omega, hd24, by omega, by repeat (first | exact rel.refl _ | exact rel.mono (by assumption) (by decide) (by decide) | refine rel.I (by decide) ?_ | refine rel.A (by decide) ?_ | refine rel.trans ?_ (rel.mono (by assumption) (by decide) (by decide))), hnl, by omega⟩, show PP G (rv G h q24 w) t.heap by rw [ht]; exact hP⟩, hS.F ht⟩) hS.2.2 dX1_readItem_98
    · skip
      refine lv_iconst (v := nI 1) hx hb dX1_readItem_19 (by decide) ?_
      refine lv_goto (tgt := 24) hx hb dX1_readItem_20 (by decide) ?_
      refine cXv (As := [.int (nI 1)]) (rest := []) (S := oS × oS) (wa := rv G h rd w) (w1 := fun v => rv G h v.1 v.2) ⟨hx, hb, hml, hown, hts⟩ (mt_X1_beginBlock l G h _ rd w len a0 dp nv (nI 1) (hlen) (ha0) (hdp) (hnv) (by first | assumption | omega) (by first | assumption | omega) (by first | assumption | omega) (by first | assumption | omega) (by decide)) (cwV 1 hts gX1_readItem_X1_beginBlock rfl rfl rfl (by decide +kernel) ⟨Nat.le_of_ble_eq_true rfl, Nat.le_of_ble_eq_true rfl⟩) hK hN hP hD hS hA (fun _ => rfl) 0 1 rfl rfl rfl hl.1 rfl (Nat.le_of_ble_eq_true rfl) ⟨Nat.zero_le _, Nat.zero_le _⟩ dX1_readItem_24 (fun u24 H locs hw24 hP hD hS => ?_)
      obtain ⟨q24, b24, d24, rfl, hR24, hb24, hbn24, hd24, hdn24⟩ := hw24
      have hP : PP G (rv G h q24 w) H := hP
      have hD : va_D A (rv G h q24 w) := hD
      refine lv_goto (tgt := 98) hx hb dX1_readItem_27 (by decide) ?_
      exact W.vret hx hb hr (fun t ht hW => ⟨⟨(q24, w), rfl, ⟨_, _, b24, d24, nl, rfl, by repeat (first | exact rel.refl _ | exact rel.mono (by assumption) (by decide) (by decide) | refine rel.I (by decide) ?_ | refine rel.A (by decide) ?_ | refine rel.trans ?_ (rel.mono (by assumption) (by decide) (by decide))), hb24, by omega, hd24, by omega, by repeat (first | exact rel.refl _ | exact rel.mono (by assumption) (by decide) (by decide) | refine rel.I (by decide) ?_ | refine rel.A (by decide) ?_ | refine rel.trans ?_ (rel.mono (by assumption) (by decide) (by decide))), hnl, by omega⟩, show PP G (rv G h q24 w) t.heap by rw [ht]; exact hP⟩, hS.F ht⟩) hS.2.2 dX1_readItem_98
  · skip
    refine lv_iload_n hx hb dX1_readItem_6 rfl (lv_at hl 1 rfl) ?_
    refine lv_bipush (v := nI 100) hx hb dX1_readItem_7 (by decide) ?_
    refine lv_icmp_ne (tgt := 30) hx hb dX1_readItem_9 (by decide) (fun c9 => ?_) (fun c9 => ?_)
    · skip
      refine lv_iload_n hx hb dX1_readItem_30 rfl (lv_at hl 1 rfl) ?_
      refine lv_bipush (v := nI 41) hx hb dX1_readItem_31 (by decide) ?_
      refine lv_icmp_ne (tgt := 66) hx hb dX1_readItem_33 (by decide) (fun c33 => ?_) (fun c33 => ?_)
      · skip
        refine lv_iload_n hx hb dX1_readItem_66 rfl (lv_at hl 1 rfl) ?_
        refine cSNi (As := [.int x]) (rest := []) ⟨hx, hb, hml, hown, hts⟩ (mt_X4_isSign l x) ⟨va_cnB 1 hts ggX1_readItem_X4_isSign rfl rfl rfl hN.2 (hts (.initialized RX4) (List.mem_of_getElem? (i := 61) rfl)) (by decide +kernel) ⟨Nat.le_of_ble_eq_true rfl, Nat.le_of_ble_eq_true rfl⟩, hts (.static yX4_isSign) (List.mem_of_getElem? (i := 60) rfl), trivial⟩ rfl hl.1 rfl (Nat.le_of_ble_eq_true rfl) ⟨Nat.zero_le _, Nat.zero_le _⟩ dX1_readItem_67 (fun r67 hw67 => ?_)
        rcases hw67 with ⟨rfl, hy67⟩ | rfl
        · skip
          have hAl : a0 < len := hax hy67
          refine lv_if_eq (tgt := 89) hx hb dX1_readItem_70 (by decide) (fun c9 => absurd c9 (by decide)) (fun _ => ?_)
          refine lv_aload_n hx hb dX1_readItem_73 rfl (lv_at hl 0 rfl) ?_
          refine cRi (w := rv G h rd w) (As := []) (rest := []) ⟨hx, hb, hml, hown, hts⟩ (mt_X1_bringerAround l G h rd w dp (hdp) (by first | assumption | omega)) (cwV 0 hts gX1_readItem_X1_bringerAround rfl rfl rfl (by decide +kernel) ⟨Nat.le_of_ble_eq_true rfl, Nat.le_of_ble_eq_true rfl⟩) hK hN hP 0 1 rfl rfl rfl hl.1 rfl (Nat.le_of_ble_eq_true rfl) ⟨Nat.zero_le _, Nat.zero_le _⟩ dX1_readItem_74 (fun r74 hw74 => ?_)
          refine lv_iconst (v := (-1 : Int32)) hx hb dX1_readItem_77 (by decide) ?_
          refine lv_icmp_eq (tgt := 89) hx hb dX1_readItem_78 (by decide) (fun c78 => ?_) (fun c78 => ?_)
          · skip
            refine lv_aload_n hx hb dX1_readItem_89 rfl (lv_at hl 0 rfl) ?_
            refine lv_iconst (v := nI 1) hx hb dX1_readItem_90 (by decide) ?_
            refine lv_aload_n hx hb dX1_readItem_91 rfl (lv_at hl 0 rfl) ?_
            refine va_get (D := gD G) (ci := 1) (v := .int (rd.1 2)) (C := RX1) (T := TX1) (N := 10) hx hb hts hiX1 hown hK hP 0 rfl rfl 2 (by decide) k19 (fun _ h9 => h9) rfl dX1_readItem_92 ?_
            refine topE ha0 ?_
            refine cXv (As := [.int (nI 1), .int (nI a0)]) (rest := []) (S := oS × oS) (wa := rv G h rd w) (w1 := fun v => rv G h v.1 v.2) ⟨hx, hb, hml, hown, hts⟩ (mt_X1_fail l G h _ rd w (nI 1) (nI a0)) (cwV 2 hts gX1_readItem_X1_fail rfl rfl rfl (by decide +kernel) ⟨Nat.le_of_ble_eq_true rfl, Nat.le_of_ble_eq_true rfl⟩) hK hN hP hD hS hA (fun _ => rfl) 0 1 rfl rfl rfl hl.1 rfl (Nat.le_of_ble_eq_true rfl) ⟨Nat.zero_le _, Nat.zero_le _⟩ dX1_readItem_95 (fun u95 H locs hw95 hP hD hS => ?_)
            obtain ⟨q95, rfl, hR95⟩ := hw95
            have hP : PP G (rv G h q95 w) H := hP
            have hD : va_D A (rv G h q95 w) := hD
            exact W.vret hx hb hr (fun t ht hW => ⟨⟨(q95, w), rfl, ⟨_, _, a0, dp, nl, rfl, by repeat (first | exact rel.refl _ | exact rel.mono (by assumption) (by decide) (by decide) | refine rel.I (by decide) ?_ | refine rel.A (by decide) ?_ | refine rel.trans ?_ (rel.mono (by assumption) (by decide) (by decide))), (hR95.1 2 (by decide)).trans (ha0), by omega, (hR95.1 8 (by decide)).trans (hdp), by omega, by repeat (first | exact rel.refl _ | exact rel.mono (by assumption) (by decide) (by decide) | refine rel.I (by decide) ?_ | refine rel.A (by decide) ?_ | refine rel.trans ?_ (rel.mono (by assumption) (by decide) (by decide))), hnl, by omega⟩, show PP G (rv G h q95 w) t.heap by rw [ht]; exact hP⟩, hS.F ht⟩) hS.2.2 dX1_readItem_98
          · skip
            refine lv_aload_n hx hb dX1_readItem_81 rfl (lv_at hl 0 rfl) ?_
            refine lv_iload_n hx hb dX1_readItem_82 rfl (lv_at hl 1 rfl) ?_
            refine cXv (As := [.int x]) (rest := []) (S := oS × oS) (wa := rv G h rd w) (w1 := fun v => rv G h v.1 v.2) ⟨hx, hb, hml, hown, hts⟩ (mt_X1_readOneLine l G h _ rd w len a0 dp nl x (hlen) (ha0) (hdp) (hnl) (by first | assumption | omega) (by first | assumption | omega) (by first | assumption | omega) (by first | assumption | omega)) (cwV 1 hts gX1_readItem_X1_readOneLine rfl rfl rfl (by decide +kernel) ⟨Nat.le_of_ble_eq_true rfl, Nat.le_of_ble_eq_true rfl⟩) hK hN hP hD hS hA (fun _ => rfl) 0 1 rfl rfl rfl hl.1 rfl (Nat.le_of_ble_eq_true rfl) ⟨Nat.zero_le _, Nat.zero_le _⟩ dX1_readItem_83 (fun u83 H locs hw83 hP hD hS => ?_)
            obtain ⟨q83, p83, b83, n83, rfl, hR83, hb83, hbn83, hV83, en83, hn83⟩ := hw83
            have hP : PP G (rv G h q83 p83) H := hP
            have hD : va_D A (rv G h q83 p83) := hD
            refine lv_goto (tgt := 98) hx hb dX1_readItem_86 (by decide) ?_
            exact W.vret hx hb hr (fun t ht hW => ⟨⟨(q83, p83), rfl, ⟨_, _, b83, dp, n83, rfl, by repeat (first | exact rel.refl _ | exact rel.mono (by assumption) (by decide) (by decide) | refine rel.I (by decide) ?_ | refine rel.A (by decide) ?_ | refine rel.trans ?_ (rel.mono (by assumption) (by decide) (by decide))), hb83, by omega, (hR83.1 8 (by decide)).trans (hdp), by omega, by repeat (first | exact rel.refl _ | exact rel.mono (by assumption) (by decide) (by decide) | refine rel.I (by decide) ?_ | refine rel.A (by decide) ?_ | refine rel.trans ?_ (rel.mono (by assumption) (by decide) (by decide))), en83, by omega⟩, show PP G (rv G h q83 p83) t.heap by rw [ht]; exact hP⟩, hS.F ht⟩) hS.2.2 dX1_readItem_98
        · skip
          refine lv_if_eq (tgt := 89) hx hb dX1_readItem_70 (by decide) (fun _ => ?_) (fun c9 => absurd (by decide) c9)
          refine lv_aload_n hx hb dX1_readItem_89 rfl (lv_at hl 0 rfl) ?_
          refine lv_iconst (v := nI 1) hx hb dX1_readItem_90 (by decide) ?_
          refine lv_aload_n hx hb dX1_readItem_91 rfl (lv_at hl 0 rfl) ?_
          refine va_get (D := gD G) (ci := 1) (v := .int (rd.1 2)) (C := RX1) (T := TX1) (N := 10) hx hb hts hiX1 hown hK hP 0 rfl rfl 2 (by decide) k19 (fun _ h9 => h9) rfl dX1_readItem_92 ?_
          refine topE ha0 ?_
          refine cXv (As := [.int (nI 1), .int (nI a0)]) (rest := []) (S := oS × oS) (wa := rv G h rd w) (w1 := fun v => rv G h v.1 v.2) ⟨hx, hb, hml, hown, hts⟩ (mt_X1_fail l G h _ rd w (nI 1) (nI a0)) (cwV 2 hts gX1_readItem_X1_fail rfl rfl rfl (by decide +kernel) ⟨Nat.le_of_ble_eq_true rfl, Nat.le_of_ble_eq_true rfl⟩) hK hN hP hD hS hA (fun _ => rfl) 0 1 rfl rfl rfl hl.1 rfl (Nat.le_of_ble_eq_true rfl) ⟨Nat.zero_le _, Nat.zero_le _⟩ dX1_readItem_95 (fun u95 H locs hw95 hP hD hS => ?_)
          obtain ⟨q95, rfl, hR95⟩ := hw95
          have hP : PP G (rv G h q95 w) H := hP
          have hD : va_D A (rv G h q95 w) := hD
          exact W.vret hx hb hr (fun t ht hW => ⟨⟨(q95, w), rfl, ⟨_, _, a0, dp, nl, rfl, by repeat (first | exact rel.refl _ | exact rel.mono (by assumption) (by decide) (by decide) | refine rel.I (by decide) ?_ | refine rel.A (by decide) ?_ | refine rel.trans ?_ (rel.mono (by assumption) (by decide) (by decide))), (hR95.1 2 (by decide)).trans (ha0), by omega, (hR95.1 8 (by decide)).trans (hdp), by omega, by repeat (first | exact rel.refl _ | exact rel.mono (by assumption) (by decide) (by decide) | refine rel.I (by decide) ?_ | refine rel.A (by decide) ?_ | refine rel.trans ?_ (rel.mono (by assumption) (by decide) (by decide))), hnl, by omega⟩, show PP G (rv G h q95 w) t.heap by rw [ht]; exact hP⟩, hS.F ht⟩) hS.2.2 dX1_readItem_98
      · skip
        have hAl : a0 < len := hax (fun q => absurd (c33.symm.trans q) (by decide))
        refine lv_aload_n hx hb dX1_readItem_36 rfl (lv_at hl 0 rfl) ?_
        refine va_get (D := gD G) (ci := 1) (v := .int (rd.1 8)) (C := RX1) (T := TX1) (N := 10) hx hb hts hiX1 hown hK hP 0 rfl rfl 8 (by decide) k38 (fun _ h9 => h9) rfl dX1_readItem_37 ?_
        refine topE hdp ?_
        refine lv_if_le (tgt := 66) hx hb dX1_readItem_40 (by decide) (fun c40 => ?_) (fun c40 => ?_)
        · skip
          have n40 : dp ≤ 0 := (nI_leI (a := dp) (b := 0) (by omega) (by omega)).mp c40
          refine lv_iload_n hx hb dX1_readItem_66 rfl (lv_at hl 1 rfl) ?_
          refine cSNi (As := [.int x]) (rest := []) ⟨hx, hb, hml, hown, hts⟩ (mt_X4_isSign l x) ⟨va_cnB 1 hts ggX1_readItem_X4_isSign rfl rfl rfl hN.2 (hts (.initialized RX4) (List.mem_of_getElem? (i := 61) rfl)) (by decide +kernel) ⟨Nat.le_of_ble_eq_true rfl, Nat.le_of_ble_eq_true rfl⟩, hts (.static yX4_isSign) (List.mem_of_getElem? (i := 60) rfl), trivial⟩ rfl hl.1 rfl (Nat.le_of_ble_eq_true rfl) ⟨Nat.zero_le _, Nat.zero_le _⟩ dX1_readItem_67 (fun r67 hw67 => ?_)
          rcases hw67 with ⟨rfl, hy67⟩ | rfl
          · skip
            have hAl : a0 < len := hax hy67
            refine lv_if_eq (tgt := 89) hx hb dX1_readItem_70 (by decide) (fun c9 => absurd c9 (by decide)) (fun _ => ?_)
            refine lv_aload_n hx hb dX1_readItem_73 rfl (lv_at hl 0 rfl) ?_
            refine cRi (w := rv G h rd w) (As := []) (rest := []) ⟨hx, hb, hml, hown, hts⟩ (mt_X1_bringerAround l G h rd w dp (hdp) (by first | assumption | omega)) (cwV 0 hts gX1_readItem_X1_bringerAround rfl rfl rfl (by decide +kernel) ⟨Nat.le_of_ble_eq_true rfl, Nat.le_of_ble_eq_true rfl⟩) hK hN hP 0 1 rfl rfl rfl hl.1 rfl (Nat.le_of_ble_eq_true rfl) ⟨Nat.zero_le _, Nat.zero_le _⟩ dX1_readItem_74 (fun r74 hw74 => ?_)
            refine lv_iconst (v := (-1 : Int32)) hx hb dX1_readItem_77 (by decide) ?_
            refine lv_icmp_eq (tgt := 89) hx hb dX1_readItem_78 (by decide) (fun c78 => ?_) (fun c78 => ?_)
            · skip
              refine lv_aload_n hx hb dX1_readItem_89 rfl (lv_at hl 0 rfl) ?_
              refine lv_iconst (v := nI 1) hx hb dX1_readItem_90 (by decide) ?_
              refine lv_aload_n hx hb dX1_readItem_91 rfl (lv_at hl 0 rfl) ?_
              refine va_get (D := gD G) (ci := 1) (v := .int (rd.1 2)) (C := RX1) (T := TX1) (N := 10) hx hb hts hiX1 hown hK hP 0 rfl rfl 2 (by decide) k19 (fun _ h9 => h9) rfl dX1_readItem_92 ?_
              refine topE ha0 ?_
              refine cXv (As := [.int (nI 1), .int (nI a0)]) (rest := []) (S := oS × oS) (wa := rv G h rd w) (w1 := fun v => rv G h v.1 v.2) ⟨hx, hb, hml, hown, hts⟩ (mt_X1_fail l G h _ rd w (nI 1) (nI a0)) (cwV 2 hts gX1_readItem_X1_fail rfl rfl rfl (by decide +kernel) ⟨Nat.le_of_ble_eq_true rfl, Nat.le_of_ble_eq_true rfl⟩) hK hN hP hD hS hA (fun _ => rfl) 0 1 rfl rfl rfl hl.1 rfl (Nat.le_of_ble_eq_true rfl) ⟨Nat.zero_le _, Nat.zero_le _⟩ dX1_readItem_95 (fun u95 H locs hw95 hP hD hS => ?_)
              obtain ⟨q95, rfl, hR95⟩ := hw95
              have hP : PP G (rv G h q95 w) H := hP
              have hD : va_D A (rv G h q95 w) := hD
              exact W.vret hx hb hr (fun t ht hW => ⟨⟨(q95, w), rfl, ⟨_, _, a0, dp, nl, rfl, by repeat (first | exact rel.refl _ | exact rel.mono (by assumption) (by decide) (by decide) | refine rel.I (by decide) ?_ | refine rel.A (by decide) ?_ | refine rel.trans ?_ (rel.mono (by assumption) (by decide) (by decide))), (hR95.1 2 (by decide)).trans (ha0), by omega, (hR95.1 8 (by decide)).trans (hdp), by omega, by repeat (first | exact rel.refl _ | exact rel.mono (by assumption) (by decide) (by decide) | refine rel.I (by decide) ?_ | refine rel.A (by decide) ?_ | refine rel.trans ?_ (rel.mono (by assumption) (by decide) (by decide))), hnl, by omega⟩, show PP G (rv G h q95 w) t.heap by rw [ht]; exact hP⟩, hS.F ht⟩) hS.2.2 dX1_readItem_98
            · skip
              refine lv_aload_n hx hb dX1_readItem_81 rfl (lv_at hl 0 rfl) ?_
              refine lv_iload_n hx hb dX1_readItem_82 rfl (lv_at hl 1 rfl) ?_
              refine cXv (As := [.int x]) (rest := []) (S := oS × oS) (wa := rv G h rd w) (w1 := fun v => rv G h v.1 v.2) ⟨hx, hb, hml, hown, hts⟩ (mt_X1_readOneLine l G h _ rd w len a0 dp nl x (hlen) (ha0) (hdp) (hnl) (by first | assumption | omega) (by first | assumption | omega) (by first | assumption | omega) (by first | assumption | omega)) (cwV 1 hts gX1_readItem_X1_readOneLine rfl rfl rfl (by decide +kernel) ⟨Nat.le_of_ble_eq_true rfl, Nat.le_of_ble_eq_true rfl⟩) hK hN hP hD hS hA (fun _ => rfl) 0 1 rfl rfl rfl hl.1 rfl (Nat.le_of_ble_eq_true rfl) ⟨Nat.zero_le _, Nat.zero_le _⟩ dX1_readItem_83 (fun u83 H locs hw83 hP hD hS => ?_)
              obtain ⟨q83, p83, b83, n83, rfl, hR83, hb83, hbn83, hV83, en83, hn83⟩ := hw83
              have hP : PP G (rv G h q83 p83) H := hP
              have hD : va_D A (rv G h q83 p83) := hD
              refine lv_goto (tgt := 98) hx hb dX1_readItem_86 (by decide) ?_
              exact W.vret hx hb hr (fun t ht hW => ⟨⟨(q83, p83), rfl, ⟨_, _, b83, dp, n83, rfl, by repeat (first | exact rel.refl _ | exact rel.mono (by assumption) (by decide) (by decide) | refine rel.I (by decide) ?_ | refine rel.A (by decide) ?_ | refine rel.trans ?_ (rel.mono (by assumption) (by decide) (by decide))), hb83, by omega, (hR83.1 8 (by decide)).trans (hdp), by omega, by repeat (first | exact rel.refl _ | exact rel.mono (by assumption) (by decide) (by decide) | refine rel.I (by decide) ?_ | refine rel.A (by decide) ?_ | refine rel.trans ?_ (rel.mono (by assumption) (by decide) (by decide))), en83, by omega⟩, show PP G (rv G h q83 p83) t.heap by rw [ht]; exact hP⟩, hS.F ht⟩) hS.2.2 dX1_readItem_98
          · skip
            refine lv_if_eq (tgt := 89) hx hb dX1_readItem_70 (by decide) (fun _ => ?_) (fun c9 => absurd (by decide) c9)
            refine lv_aload_n hx hb dX1_readItem_89 rfl (lv_at hl 0 rfl) ?_
            refine lv_iconst (v := nI 1) hx hb dX1_readItem_90 (by decide) ?_
            refine lv_aload_n hx hb dX1_readItem_91 rfl (lv_at hl 0 rfl) ?_
            refine va_get (D := gD G) (ci := 1) (v := .int (rd.1 2)) (C := RX1) (T := TX1) (N := 10) hx hb hts hiX1 hown hK hP 0 rfl rfl 2 (by decide) k19 (fun _ h9 => h9) rfl dX1_readItem_92 ?_
            refine topE ha0 ?_
            refine cXv (As := [.int (nI 1), .int (nI a0)]) (rest := []) (S := oS × oS) (wa := rv G h rd w) (w1 := fun v => rv G h v.1 v.2) ⟨hx, hb, hml, hown, hts⟩ (mt_X1_fail l G h _ rd w (nI 1) (nI a0)) (cwV 2 hts gX1_readItem_X1_fail rfl rfl rfl (by decide +kernel) ⟨Nat.le_of_ble_eq_true rfl, Nat.le_of_ble_eq_true rfl⟩) hK hN hP hD hS hA (fun _ => rfl) 0 1 rfl rfl rfl hl.1 rfl (Nat.le_of_ble_eq_true rfl) ⟨Nat.zero_le _, Nat.zero_le _⟩ dX1_readItem_95 (fun u95 H locs hw95 hP hD hS => ?_)
            obtain ⟨q95, rfl, hR95⟩ := hw95
            have hP : PP G (rv G h q95 w) H := hP
            have hD : va_D A (rv G h q95 w) := hD
            exact W.vret hx hb hr (fun t ht hW => ⟨⟨(q95, w), rfl, ⟨_, _, a0, dp, nl, rfl, by repeat (first | exact rel.refl _ | exact rel.mono (by assumption) (by decide) (by decide) | refine rel.I (by decide) ?_ | refine rel.A (by decide) ?_ | refine rel.trans ?_ (rel.mono (by assumption) (by decide) (by decide))), (hR95.1 2 (by decide)).trans (ha0), by omega, (hR95.1 8 (by decide)).trans (hdp), by omega, by repeat (first | exact rel.refl _ | exact rel.mono (by assumption) (by decide) (by decide) | refine rel.I (by decide) ?_ | refine rel.A (by decide) ?_ | refine rel.trans ?_ (rel.mono (by assumption) (by decide) (by decide))), hnl, by omega⟩, show PP G (rv G h q95 w) t.heap by rw [ht]; exact hP⟩, hS.F ht⟩) hS.2.2 dX1_readItem_98
        · skip
          have n40 : ¬ (dp ≤ 0) := fun q9 => c40 ((nI_leI (a := dp) (b := 0) (by omega) (by omega)).mpr q9)
          refine lv_aload_n hx hb dX1_readItem_43 rfl (lv_at hl 0 rfl) ?_
          refine lv_dup hx hb dX1_readItem_44 rfl ?_
          refine va_get (D := gD G) (ci := 1) (v := .int (rd.1 8)) (C := RX1) (T := TX1) (N := 10) hx hb hts hiX1 hown hK hP 0 rfl rfl 8 (by decide) k38 (fun _ h9 => h9) rfl dX1_readItem_45 ?_
          refine topE hdp ?_
          refine lv_iconst (v := nI 1) hx hb dX1_readItem_48 (by decide) ?_
          refine lv_isub hx hb dX1_readItem_49 ?_
          refine topE (y := nI (dp - 1)) (pk_sub (by omega)) ?_
          refine va_put (D := gD G) (ci := 1) (v := .int (nI (dp - 1))) (ty := .int) (C := RX1) (T := TX1) (N := 10) hx hb hts hiX1 tyX1 tyX1_ok nmX1 hown hK hP hD hS 0 rfl rfl 8 (by decide) k38 (fun _ h9 => h9) rfl (by decide +kernel) (rfl) (rfl) (Nat.le_of_ble_eq_true rfl) dX1_readItem_50 (fun H locs hP hD hS => ?_)
          have hP : PP G (rv G h (oI rd 8 (nI (dp - 1))) w) H := hP
          have hD : va_D A (rv G h (oI rd 8 (nI (dp - 1))) w) := hD
          refine lv_aload_n hx hb dX1_readItem_53 rfl (lv_at hl 0 rfl) ?_
          refine lv_dup hx hb dX1_readItem_54 rfl ?_
          refine va_get (D := gD G) (ci := 1) (v := .int (rd.1 2)) (C := RX1) (T := TX1) (N := 10) hx hb hts hiX1 hown hK hP 0 rfl rfl 2 (by decide) k19 (fun _ h9 => h9) rfl dX1_readItem_55 ?_
          refine topE ha0 ?_
          refine lv_iconst (v := nI 1) hx hb dX1_readItem_58 (by decide) ?_
          refine lv_iadd hx hb dX1_readItem_59 ?_
          refine topE (y := nI (a0 + 1)) (nI_add a0 1) ?_
          refine va_put (D := gD G) (ci := 1) (v := .int (nI (a0 + 1))) (ty := .int) (C := RX1) (T := TX1) (N := 10) hx hb hts hiX1 tyX1 tyX1_ok nmX1 hown hK hP hD hS 0 rfl rfl 2 (by decide) k19 (fun _ h9 => h9) rfl (by decide +kernel) (rfl) (rfl) (Nat.le_of_ble_eq_true rfl) dX1_readItem_60 (fun H locs hP hD hS => ?_)
          have hP : PP G (rv G h (oI (oI rd 8 (nI (dp - 1))) 2 (nI (a0 + 1))) w) H := hP
          have hD : va_D A (rv G h (oI (oI rd 8 (nI (dp - 1))) 2 (nI (a0 + 1))) w) := hD
          refine lv_goto (tgt := 98) hx hb dX1_readItem_63 (by decide) ?_
          exact W.vret hx hb hr (fun t ht hW => ⟨⟨(oI (oI rd 8 (nI (dp - 1))) 2 (nI (a0 + 1)), w), rfl, ⟨_, _, a0 + 1, dp - 1, nl, rfl, by repeat (first | exact rel.refl _ | exact rel.mono (by assumption) (by decide) (by decide) | refine rel.I (by decide) ?_ | refine rel.A (by decide) ?_ | refine rel.trans ?_ (rel.mono (by assumption) (by decide) (by decide))), rfl, by omega, rfl, by omega, by repeat (first | exact rel.refl _ | exact rel.mono (by assumption) (by decide) (by decide) | refine rel.I (by decide) ?_ | refine rel.A (by decide) ?_ | refine rel.trans ?_ (rel.mono (by assumption) (by decide) (by decide))), hnl, by omega⟩, show PP G (rv G h (oI (oI rd 8 (nI (dp - 1))) 2 (nI (a0 + 1))) w) t.heap by rw [ht]; exact hP⟩, hS.F ht⟩) hS.2.2 dX1_readItem_98
    · skip
      have hAl : a0 < len := hax (fun q => absurd (c9.symm.trans q) (by decide))
      refine lv_aload_n hx hb dX1_readItem_12 rfl (lv_at hl 0 rfl) ?_
      refine lv_iload_n hx hb dX1_readItem_13 rfl (lv_at hl 1 rfl) ?_
      refine lv_bipush (v := nI 105) hx hb dX1_readItem_14 (by decide) ?_
      refine lv_icmp_ne (tgt := 23) hx hb dX1_readItem_16 (by decide) (fun c16 => ?_) (fun c16 => ?_)
      · skip
        refine lv_iconst (v := nI 0) hx hb dX1_readItem_23 (by decide) ?_
        refine cXv (As := [.int (nI 0)]) (rest := []) (S := oS × oS) (wa := rv G h rd w) (w1 := fun v => rv G h v.1 v.2) ⟨hx, hb, hml, hown, hts⟩ (mt_X1_beginBlock l G h _ rd w len a0 dp nv (nI 0) (hlen) (ha0) (hdp) (hnv) (by first | assumption | omega) (by first | assumption | omega) (by first | assumption | omega) (by first | assumption | omega) (by decide)) (cwV 1 hts gX1_readItem_X1_beginBlock rfl rfl rfl (by decide +kernel) ⟨Nat.le_of_ble_eq_true rfl, Nat.le_of_ble_eq_true rfl⟩) hK hN hP hD hS hA (fun _ => rfl) 0 1 rfl rfl rfl hl.1 rfl (Nat.le_of_ble_eq_true rfl) ⟨Nat.zero_le _, Nat.zero_le _⟩ dX1_readItem_24 (fun u24 H locs hw24 hP hD hS => ?_)
        obtain ⟨q24, b24, d24, rfl, hR24, hb24, hbn24, hd24, hdn24⟩ := hw24
        have hP : PP G (rv G h q24 w) H := hP
        have hD : va_D A (rv G h q24 w) := hD
        refine lv_goto (tgt := 98) hx hb dX1_readItem_27 (by decide) ?_
        exact W.vret hx hb hr (fun t ht hW => ⟨⟨(q24, w), rfl, ⟨_, _, b24, d24, nl, rfl, by repeat (first | exact rel.refl _ | exact rel.mono (by assumption) (by decide) (by decide) | refine rel.I (by decide) ?_ | refine rel.A (by decide) ?_ | refine rel.trans ?_ (rel.mono (by assumption) (by decide) (by decide))), hb24, by omega, hd24, by omega, by repeat (first | exact rel.refl _ | exact rel.mono (by assumption) (by decide) (by decide) | refine rel.I (by decide) ?_ | refine rel.A (by decide) ?_ | refine rel.trans ?_ (rel.mono (by assumption) (by decide) (by decide))), hnl, by omega⟩, show PP G (rv G h q24 w) t.heap by rw [ht]; exact hP⟩, hS.F ht⟩) hS.2.2 dX1_readItem_98
      · skip
        refine lv_iconst (v := nI 1) hx hb dX1_readItem_19 (by decide) ?_
        refine lv_goto (tgt := 24) hx hb dX1_readItem_20 (by decide) ?_
        refine cXv (As := [.int (nI 1)]) (rest := []) (S := oS × oS) (wa := rv G h rd w) (w1 := fun v => rv G h v.1 v.2) ⟨hx, hb, hml, hown, hts⟩ (mt_X1_beginBlock l G h _ rd w len a0 dp nv (nI 1) (hlen) (ha0) (hdp) (hnv) (by first | assumption | omega) (by first | assumption | omega) (by first | assumption | omega) (by first | assumption | omega) (by decide)) (cwV 1 hts gX1_readItem_X1_beginBlock rfl rfl rfl (by decide +kernel) ⟨Nat.le_of_ble_eq_true rfl, Nat.le_of_ble_eq_true rfl⟩) hK hN hP hD hS hA (fun _ => rfl) 0 1 rfl rfl rfl hl.1 rfl (Nat.le_of_ble_eq_true rfl) ⟨Nat.zero_le _, Nat.zero_le _⟩ dX1_readItem_24 (fun u24 H locs hw24 hP hD hS => ?_)
        obtain ⟨q24, b24, d24, rfl, hR24, hb24, hbn24, hd24, hdn24⟩ := hw24
        have hP : PP G (rv G h q24 w) H := hP
        have hD : va_D A (rv G h q24 w) := hD
        refine lv_goto (tgt := 98) hx hb dX1_readItem_27 (by decide) ?_
        exact W.vret hx hb hr (fun t ht hW => ⟨⟨(q24, w), rfl, ⟨_, _, b24, d24, nl, rfl, by repeat (first | exact rel.refl _ | exact rel.mono (by assumption) (by decide) (by decide) | refine rel.I (by decide) ?_ | refine rel.A (by decide) ?_ | refine rel.trans ?_ (rel.mono (by assumption) (by decide) (by decide))), hb24, by omega, hd24, by omega, by repeat (first | exact rel.refl _ | exact rel.mono (by assumption) (by decide) (by decide) | refine rel.I (by decide) ?_ | refine rel.A (by decide) ?_ | refine rel.trans ?_ (rel.mono (by assumption) (by decide) (by decide))), hnl, by omega⟩, show PP G (rv G h q24 w) t.heap by rw [ht]; exact hP⟩, hS.F ht⟩) hS.2.2 dX1_readItem_98
set_option maxHeartbeats 1000000 in
set_option maxRecDepth 100000 in
theorem mt_X1_readAll (l : Launch) (G : gG) (h : Nat → Nat) (sz : Nat) (rd : oS) (w : oS) (len : Nat) (hlen : rd.1 1 = nI len) (hl240 : len ≤ 240) : Met l yX1_readAll wsX1_readAll ({ frames := 5, cells := 0, slots := 0, locals := 117 }) (preW G (rv G h rd w) sz [.ref (h 0)]) (va_Qi (fun (r : Int32) (v : oS × oS) => ∃ q p n m, v = (q, p) ∧ q.1 1 = nI 0 ∧ p.1 0 = nI n ∧ n ≤ 24 ∧ p.1 5 = nI m ∧ m ≤ 120) (fun v t => PP G (rv G h v.1 v.2) t.heap) (va_A (rv G h rd w) sz)) 0 0 (va_A (rv G h rd w) sz) := by
  refine Met.ofW (cc := cX1_readAll) (maxL := 2) (ret := (some .int)) (by decide) rfl ?_
  intro p e s m args below meth c s₁ B hml hv
  obtain ⟨ha, hsz, hP, hK, hN, hD0⟩ := hv
  subst ha
  have hx := B.exec
  have hb := B.bytes
  have hr := B.returns
  have hts := atoms_spec (ws := wsX1_readAll) B.pre
  have hown : s.vm.findClass RX1 = some m.cls := findClass_of_methodNamed B.named
  have hlocks := B.notSynchronized
  subst hsz
  have hD := hD0.self (sz := s.heap.size)
  generalize hAe : va_A (rv G h rd w) s.heap.size = A at hD ⊢
  have hA : ∀ q : Nat, s.heap.size ≤ q → A q := fun q h => by rw [← hAe]; exact Or.inr h
  clear hAe hD0
  have hS : va_S A s.heap s.heap [] := va_S.rf
  have hiX1 : ∀ w ∈ wsX10, w ∈ wsX1_readAll := by decide +kernel
  have k19 := hts (.fieldLink RX1 19 "WovenHistory$Reader" "at" "I") (List.mem_of_getElem? (i := 1) rfl)
  have k38 := hts (.fieldLink RX1 38 "WovenHistory$Reader" "depth" "I") (List.mem_of_getElem? (i := 2) rfl)
  have k25 := hts (.fieldLink RX1 25 "WovenHistory$Reader" "faultNumber" "I") (List.mem_of_getElem? (i := 3) rfl)
  have k28 := hts (.fieldLink RX1 28 "WovenHistory$Reader" "faultAt" "I") (List.mem_of_getElem? (i := 4) rfl)
  have k44 := hts (.fieldLink RX1 44 "WovenHistory$Reader" "woven" "LWovenHistory$Weave;") (List.mem_of_getElem? (i := 5) rfl)
  have k15 := hts (.fieldLink RX1 15 "WovenHistory$Reader" "length" "I") (List.mem_of_getElem? (i := 6) rfl)
  have hl := lv_entry ([.ref (h 0)]) (n := 2) (Nat.le_of_ble_eq_true rfl)
  rw [lg_entry_eq]
  generalize (lg_sl ([.ref (h 0)]) ++ List.replicate (2 - (lg_sl ([.ref (h 0)])).length) Slot.unset).toArray = ls at hl ⊢
  have hl : lv_has ls 2 [(0, .ref (h 0))] := hl
  refine lv_aload_n hx hb dX1_readAll_0 rfl (lv_at hl 0 rfl) ?_
  refine lv_iconst (v := nI 0) hx hb dX1_readAll_1 (by decide) ?_
  refine va_put (D := gD G) (ci := 1) (v := .int (nI 0)) (ty := .int) (C := RX1) (T := TX1) (N := 10) hx hb hts hiX1 tyX1 tyX1_ok nmX1 hown hK hP hD hS 0 rfl rfl 2 (by decide) k19 (fun _ h9 => h9) rfl (by decide +kernel) (rfl) (rfl) (Nat.le_of_ble_eq_true rfl) dX1_readAll_2 (fun H locs hP hD hS => ?_)
  have hP : PP G (rv G h (oI rd 2 (nI 0)) w) H := hP
  have hD : va_D A (rv G h (oI rd 2 (nI 0)) w) := hD
  refine lv_aload_n hx hb dX1_readAll_5 rfl (lv_at hl 0 rfl) ?_
  refine lv_iconst (v := nI 0) hx hb dX1_readAll_6 (by decide) ?_
  refine va_put (D := gD G) (ci := 1) (v := .int (nI 0)) (ty := .int) (C := RX1) (T := TX1) (N := 10) hx hb hts hiX1 tyX1 tyX1_ok nmX1 hown hK hP hD hS 0 rfl rfl 8 (by decide) k38 (fun _ h9 => h9) rfl (by decide +kernel) (rfl) (rfl) (Nat.le_of_ble_eq_true rfl) dX1_readAll_7 (fun H locs hP hD hS => ?_)
  have hP : PP G (rv G h (oI (oI rd 2 (nI 0)) 8 (nI 0)) w) H := hP
  have hD : va_D A (rv G h (oI (oI rd 2 (nI 0)) 8 (nI 0)) w) := hD
  refine lv_aload_n hx hb dX1_readAll_10 rfl (lv_at hl 0 rfl) ?_
  refine lv_iconst (v := nI 0) hx hb dX1_readAll_11 (by decide) ?_
  refine va_put (D := gD G) (ci := 1) (v := .int (nI 0)) (ty := .int) (C := RX1) (T := TX1) (N := 10) hx hb hts hiX1 tyX1 tyX1_ok nmX1 hown hK hP hD hS 0 rfl rfl 4 (by decide) k25 (fun _ h9 => h9) rfl (by decide +kernel) (rfl) (rfl) (Nat.le_of_ble_eq_true rfl) dX1_readAll_12 (fun H locs hP hD hS => ?_)
  have hP : PP G (rv G h (oI (oI (oI rd 2 (nI 0)) 8 (nI 0)) 4 (nI 0)) w) H := hP
  have hD : va_D A (rv G h (oI (oI (oI rd 2 (nI 0)) 8 (nI 0)) 4 (nI 0)) w) := hD
  refine lv_aload_n hx hb dX1_readAll_15 rfl (lv_at hl 0 rfl) ?_
  refine lv_iconst (v := (-1 : Int32)) hx hb dX1_readAll_16 (by decide) ?_
  refine va_put (D := gD G) (ci := 1) (v := .int (-1 : Int32)) (ty := .int) (C := RX1) (T := TX1) (N := 10) hx hb hts hiX1 tyX1 tyX1_ok nmX1 hown hK hP hD hS 0 rfl rfl 5 (by decide) k28 (fun _ h9 => h9) rfl (by decide +kernel) (rfl) (rfl) (Nat.le_of_ble_eq_true rfl) dX1_readAll_17 (fun H locs hP hD hS => ?_)
  have hP : PP G (rv G h (oI (oI (oI (oI rd 2 (nI 0)) 8 (nI 0)) 4 (nI 0)) 5 (-1 : Int32)) w) H := hP
  have hD : va_D A (rv G h (oI (oI (oI (oI rd 2 (nI 0)) 8 (nI 0)) 4 (nI 0)) 5 (-1 : Int32)) w) := hD
  refine lv_aload_n hx hb dX1_readAll_20 rfl (lv_at hl 0 rfl) ?_
  refine va_get (D := gD G) (ci := 1) (v := .ref (h 10)) (C := RX1) (T := TX1) (N := 10) hx hb hts hiX1 hown hK hP 0 rfl rfl 9 (by decide) k44 (fun _ h9 => h9) rfl dX1_readAll_21 ?_
  refine cWv (As := []) (rest := []) (S := oS) (wa := rv G h (oI (oI (oI (oI rd 2 (nI 0)) 8 (nI 0)) 4 (nI 0)) 5 (-1 : Int32)) w) (wc := wv G (fun k => h (10 + k)) w) (w1 := fun v => wv G (fun k => h (10 + k)) v) (wa' := fun v => rv G h (oI (oI (oI (oI rd 2 (nI 0)) 8 (nI 0)) 4 (nI 0)) 5 (-1 : Int32)) v) ⟨hx, hb, hml, hown, hts⟩ (mt_X3_makeEmpty l G (fun k => h (10 + k)) _ w) (cwV 0 hts gX1_readAll_X3_makeEmpty rfl rfl rfl (by decide +kernel) ⟨Nat.le_of_ble_eq_true rfl, Nat.le_of_ble_eq_true rfl⟩) hK hN hP hD hS hA [4, 5, 6, 7, 8, 9, 10, 11] rfl (by decide) rfl (fun _ => rfl) (fun _ => rfl) (fun _ => rfl) 0 3 rfl rfl rfl hl.1 rfl (Nat.le_of_ble_eq_true rfl) ⟨Nat.zero_le _, Nat.zero_le _⟩ dX1_readAll_24 (fun u24 H locs hw24 hP hD hS => ?_)
  obtain rfl := hw24
  have hP : PP G (rv G h (oI (oI (oI (oI rd 2 (nI 0)) 8 (nI 0)) 4 (nI 0)) 5 (-1 : Int32)) (oI (oI w 0 (nI 0)) 5 (nI 0))) H := hP
  have hD : va_D A (rv G h (oI (oI (oI (oI rd 2 (nI 0)) 8 (nI 0)) 4 (nI 0)) 5 (-1 : Int32)) (oI (oI w 0 (nI 0)) 5 (nI 0))) := hD
  refine lv_iconst (v := nI 0) hx hb dX1_readAll_27 (by decide) ?_
  refine lv_istore_n (lv' := [(1, .int (nI 0)), (0, .ref (h 0))]) hx hb dX1_readAll_28 rfl hl (by decide) rfl (fun ls hl => ?_)
  have LP29 : ∀ (n29m : Nat), ∀ (k : Nat) (q : oS) (pw : oS) (b : Nat) (n : Nat) (hk : k ≤ 25) (hR : rel [2, 3, 4, 5, 8] [6, 7] rd q) (hbq : q.1 2 = nI b) (hbn : b ≤ len) (hd : q.1 8 = nI 0) (en : pw.1 0 = nI n) (hn : n ≤ 24) (em : pw.1 5 = nI 0), (25 - k < n29m) → ∀ (H : Heap) (locs : List Loc) (ls : Array Slot), PP G (rv G h q pw) H → va_D A (rv G h q pw) → va_S A s.heap H locs → lv_has ls 2 [(0, .ref (h 0)), (1, .int (nI k))] → W p l e (headSpec wsX1_readAll ({ frames := 5, cells := 0, slots := 0, locals := 117 })).room s m ([.ref (h 0)] : List Value).toArray below meth c H locs 0 0 (MQ below (va_Qi (fun (r : Int32) (v : oS × oS) => ∃ q p n m, v = (q, p) ∧ q.1 1 = nI 0 ∧ p.1 0 = nI n ∧ n ≤ 24 ∧ p.1 5 = nI m ∧ m ≤ 120) (fun v t => PP G (rv G h v.1 v.2) t.heap) A) ([.ref (h 0)] : List Value).toArray s 0 0 A) (F0 m 29 ls []) := by
    intro n29m
    induction n29m with
    | zero => intro k q pw b n hk hR hbq hbn hd en hn em hmu H locs ls hP hD hS hl; exact absurd hmu (Nat.not_lt_zero _)
    | succ n29m ih29 =>
      intro k q pw b n hk hR hbq hbn hd en hn em hmu H locs ls hP hD hS hl
      refine lv_iload_n hx hb dX1_readAll_29 rfl (lv_at hl 1 rfl) ?_
      refine lv_bipush (v := nI 24) hx hb dX1_readAll_30 (by decide) ?_
      refine lv_icmp_gt (tgt := 54) hx hb dX1_readAll_32 (by decide) (fun c32 => ?_) (fun c32 => ?_)
      · skip
        have n32 : 24 < k := (nI_ltI (a := 24) (b := k) (by omega) (by omega)).mp c32
        refine lv_iconst (v := nI 0) hx hb dX1_readAll_54 (by decide) ?_
        refine lv_istore_n (lv' := [(1, .int (nI 0)), (0, .ref (h 0))]) hx hb dX1_readAll_55 rfl hl (by decide) rfl (fun ls hl => ?_)
        have LP56 : ∀ (n56m : Nat), ∀ (k : Nat) (q : oS) (pw : oS) (b : Nat) (n : Nat) (d : Nat) (mq : Nat) (hk : k ≤ 240) (hR : rel [2, 3, 4, 5, 8] [6, 7] rd q) (hbq : q.1 2 = nI b) (hbn : b ≤ len) (hd : q.1 8 = nI d) (hdn : d ≤ 48) (en : pw.1 0 = nI n) (hn : n ≤ 24) (em : pw.1 5 = nI mq) (hm : mq ≤ 120), (240 - k < n56m) → ∀ (H : Heap) (locs : List Loc) (ls : Array Slot), PP G (rv G h q pw) H → va_D A (rv G h q pw) → va_S A s.heap H locs → lv_has ls 2 [(0, .ref (h 0)), (1, .int (nI k))] → W p l e (headSpec wsX1_readAll ({ frames := 5, cells := 0, slots := 0, locals := 117 })).room s m ([.ref (h 0)] : List Value).toArray below meth c H locs 0 0 (MQ below (va_Qi (fun (r : Int32) (v : oS × oS) => ∃ q p n m, v = (q, p) ∧ q.1 1 = nI 0 ∧ p.1 0 = nI n ∧ n ≤ 24 ∧ p.1 5 = nI m ∧ m ≤ 120) (fun v t => PP G (rv G h v.1 v.2) t.heap) A) ([.ref (h 0)] : List Value).toArray s 0 0 A) (F0 m 56 ls []) := by
          intro n56m
          induction n56m with
          | zero => intro k q pw b n d mq hk hR hbq hbn hd hdn en hn em hm hmu H locs ls hP hD hS hl; exact absurd hmu (Nat.not_lt_zero _)
          | succ n56m ih56 =>
            intro k q pw b n d mq hk hR hbq hbn hd hdn en hn em hm hmu H locs ls hP hD hS hl
            refine lv_iload_n hx hb dX1_readAll_56 rfl (lv_at hl 1 rfl) ?_
            refine lv_sipush (v := nI 240) hx hb dX1_readAll_57 (by decide) ?_
            refine lv_icmp_ge (tgt := 85) hx hb dX1_readAll_60 (by decide) (fun c60 => ?_) (fun c60 => ?_)
            · skip
              have n60 : 240 ≤ k := (nI_leI (a := 240) (b := k) (by omega) (by omega)).mp c60
              refine lv_aload_n hx hb dX1_readAll_85 rfl (lv_at hl 0 rfl) ?_
              refine va_get (D := gD G) (ci := 1) (v := .int (q.1 8)) (C := RX1) (T := TX1) (N := 10) hx hb hts hiX1 hown hK hP 0 rfl rfl 8 (by decide) k38 (fun _ h9 => h9) rfl dX1_readAll_86 ?_
              refine topE hd ?_
              refine lv_if_le (tgt := 101) hx hb dX1_readAll_89 (by decide) (fun c89 => ?_) (fun c89 => ?_)
              · skip
                have n89 : d ≤ 0 := (nI_leI (a := d) (b := 0) (by omega) (by omega)).mp c89
                refine lv_aload_n hx hb dX1_readAll_101 rfl (lv_at hl 0 rfl) ?_
                refine lv_iconst (v := nI 0) hx hb dX1_readAll_102 (by decide) ?_
                refine va_put (D := gD G) (ci := 1) (v := .int (nI 0)) (ty := .int) (C := RX1) (T := TX1) (N := 10) hx hb hts hiX1 tyX1 tyX1_ok nmX1 hown hK hP hD hS 0 rfl rfl 1 (by decide) k15 (fun _ h9 => h9) rfl (by decide +kernel) (rfl) (rfl) (Nat.le_of_ble_eq_true rfl) dX1_readAll_103 (fun H locs hP hD hS => ?_)
                have hP : PP G (rv G h (oI q 1 (nI 0)) pw) H := hP
                have hD : va_D A (rv G h (oI q 1 (nI 0)) pw) := hD
                refine lv_aload_n hx hb dX1_readAll_106 rfl (lv_at hl 0 rfl) ?_
                refine va_get (D := gD G) (ci := 1) (v := .int (q.1 4)) (C := RX1) (T := TX1) (N := 10) hx hb hts hiX1 hown hK hP 0 rfl rfl 4 (by decide) k25 (fun _ h9 => h9) rfl dX1_readAll_107 ?_
                exact W.iret (v := q.1 4) hx hb hr (fun t ht hW => ⟨⟨q.1 4, (oI q 1 (nI 0), pw), rfl, ⟨_, _, n, mq, rfl, rfl, en, by omega, em, by omega⟩, show PP G (rv G h (oI q 1 (nI 0)) pw) t.heap by rw [ht]; exact hP⟩, hS.F ht⟩) hS.2.2 dX1_readAll_110
              · skip
                have n89 : ¬ (d ≤ 0) := fun q9 => c89 ((nI_leI (a := d) (b := 0) (by omega) (by omega)).mpr q9)
                refine lv_aload_n hx hb dX1_readAll_92 rfl (lv_at hl 0 rfl) ?_
                refine lv_iconst (v := nI 1) hx hb dX1_readAll_93 (by decide) ?_
                refine lv_aload_n hx hb dX1_readAll_94 rfl (lv_at hl 0 rfl) ?_
                refine va_get (D := gD G) (ci := 1) (v := .int (q.1 1)) (C := RX1) (T := TX1) (N := 10) hx hb hts hiX1 hown hK hP 0 rfl rfl 1 (by decide) k15 (fun _ h9 => h9) rfl dX1_readAll_95 ?_
                refine topE ((hR.1 1 (by decide)).trans hlen) ?_
                refine cXv (As := [.int (nI 1), .int (nI len)]) (rest := []) (S := oS × oS) (wa := rv G h q pw) (w1 := fun v => rv G h v.1 v.2) ⟨hx, hb, hml, hown, hts⟩ (mt_X1_fail l G h _ q pw (nI 1) (nI len)) (cwV 2 hts gX1_readAll_X1_fail rfl rfl rfl (by decide +kernel) ⟨Nat.le_of_ble_eq_true rfl, Nat.le_of_ble_eq_true rfl⟩) hK hN hP hD hS hA (fun _ => rfl) 0 1 rfl rfl rfl hl.1 rfl (Nat.le_of_ble_eq_true rfl) ⟨Nat.zero_le _, Nat.zero_le _⟩ dX1_readAll_98 (fun u98 H locs hw98 hP hD hS => ?_)
                obtain ⟨q98, rfl, hR98⟩ := hw98
                have hP : PP G (rv G h q98 pw) H := hP
                have hD : va_D A (rv G h q98 pw) := hD
                refine lv_aload_n hx hb dX1_readAll_101 rfl (lv_at hl 0 rfl) ?_
                refine lv_iconst (v := nI 0) hx hb dX1_readAll_102 (by decide) ?_
                refine va_put (D := gD G) (ci := 1) (v := .int (nI 0)) (ty := .int) (C := RX1) (T := TX1) (N := 10) hx hb hts hiX1 tyX1 tyX1_ok nmX1 hown hK hP hD hS 0 rfl rfl 1 (by decide) k15 (fun _ h9 => h9) rfl (by decide +kernel) (rfl) (rfl) (Nat.le_of_ble_eq_true rfl) dX1_readAll_103 (fun H locs hP hD hS => ?_)
                have hP : PP G (rv G h (oI q98 1 (nI 0)) pw) H := hP
                have hD : va_D A (rv G h (oI q98 1 (nI 0)) pw) := hD
                refine lv_aload_n hx hb dX1_readAll_106 rfl (lv_at hl 0 rfl) ?_
                refine va_get (D := gD G) (ci := 1) (v := .int (q98.1 4)) (C := RX1) (T := TX1) (N := 10) hx hb hts hiX1 hown hK hP 0 rfl rfl 4 (by decide) k25 (fun _ h9 => h9) rfl dX1_readAll_107 ?_
                exact W.iret (v := q98.1 4) hx hb hr (fun t ht hW => ⟨⟨q98.1 4, (oI q98 1 (nI 0), pw), rfl, ⟨_, _, n, mq, rfl, rfl, en, by omega, em, by omega⟩, show PP G (rv G h (oI q98 1 (nI 0)) pw) t.heap by rw [ht]; exact hP⟩, hS.F ht⟩) hS.2.2 dX1_readAll_110
            · skip
              have n60 : ¬ (240 ≤ k) := fun q9 => c60 ((nI_leI (a := 240) (b := k) (by omega) (by omega)).mpr q9)
              refine lv_aload_n hx hb dX1_readAll_63 rfl (lv_at hl 0 rfl) ?_
              refine cXi (As := []) (rest := []) (S := oS × oS) (wa := rv G h q pw) (w1 := fun v => rv G h v.1 v.2) ⟨hx, hb, hml, hown, hts⟩ (mt_X1_nextSign l G h _ q pw len b ((hR.1 1 (by decide)).trans hlen) (hbq) (by first | assumption | omega) (by first | assumption | omega)) (cwV 0 hts gX1_readAll_X1_nextSign rfl rfl rfl (by decide +kernel) ⟨Nat.le_of_ble_eq_true rfl, Nat.le_of_ble_eq_true rfl⟩) hK hN hP hD hS hA (fun _ => rfl) 0 1 rfl rfl rfl hl.1 rfl (Nat.le_of_ble_eq_true rfl) ⟨Nat.zero_le _, Nat.zero_le _⟩ dX1_readAll_64 (fun r64 u64 H locs hw64 hP hD hS => ?_)
              rcases hw64 with ⟨b64, rfl, hab64, hbn64, rfl⟩ | ⟨b64, rfl, hab64, hbn64, rfl⟩
              · skip
                have hP : PP G (rv G h (oI q 2 (nI b64)) pw) H := hP
                have hD : va_D A (rv G h (oI q 2 (nI b64)) pw) := hD
                refine lv_iconst (v := (-1 : Int32)) hx hb dX1_readAll_67 (by decide) ?_
                refine lv_icmp_eq (tgt := 85) hx hb dX1_readAll_68 (by decide) (fun _ => ?_) (fun c9 => absurd (by decide) c9)
                refine lv_aload_n hx hb dX1_readAll_85 rfl (lv_at hl 0 rfl) ?_
                refine va_get (D := gD G) (ci := 1) (v := .int (q.1 8)) (C := RX1) (T := TX1) (N := 10) hx hb hts hiX1 hown hK hP 0 rfl rfl 8 (by decide) k38 (fun _ h9 => h9) rfl dX1_readAll_86 ?_
                refine topE hd ?_
                refine lv_if_le (tgt := 101) hx hb dX1_readAll_89 (by decide) (fun c89 => ?_) (fun c89 => ?_)
                · skip
                  have n89 : d ≤ 0 := (nI_leI (a := d) (b := 0) (by omega) (by omega)).mp c89
                  refine lv_aload_n hx hb dX1_readAll_101 rfl (lv_at hl 0 rfl) ?_
                  refine lv_iconst (v := nI 0) hx hb dX1_readAll_102 (by decide) ?_
                  refine va_put (D := gD G) (ci := 1) (v := .int (nI 0)) (ty := .int) (C := RX1) (T := TX1) (N := 10) hx hb hts hiX1 tyX1 tyX1_ok nmX1 hown hK hP hD hS 0 rfl rfl 1 (by decide) k15 (fun _ h9 => h9) rfl (by decide +kernel) (rfl) (rfl) (Nat.le_of_ble_eq_true rfl) dX1_readAll_103 (fun H locs hP hD hS => ?_)
                  have hP : PP G (rv G h (oI (oI q 2 (nI b64)) 1 (nI 0)) pw) H := hP
                  have hD : va_D A (rv G h (oI (oI q 2 (nI b64)) 1 (nI 0)) pw) := hD
                  refine lv_aload_n hx hb dX1_readAll_106 rfl (lv_at hl 0 rfl) ?_
                  refine va_get (D := gD G) (ci := 1) (v := .int (q.1 4)) (C := RX1) (T := TX1) (N := 10) hx hb hts hiX1 hown hK hP 0 rfl rfl 4 (by decide) k25 (fun _ h9 => h9) rfl dX1_readAll_107 ?_
                  exact W.iret (v := q.1 4) hx hb hr (fun t ht hW => ⟨⟨q.1 4, (oI (oI q 2 (nI b64)) 1 (nI 0), pw), rfl, ⟨_, _, n, mq, rfl, rfl, en, by omega, em, by omega⟩, show PP G (rv G h (oI (oI q 2 (nI b64)) 1 (nI 0)) pw) t.heap by rw [ht]; exact hP⟩, hS.F ht⟩) hS.2.2 dX1_readAll_110
                · skip
                  have n89 : ¬ (d ≤ 0) := fun q9 => c89 ((nI_leI (a := d) (b := 0) (by omega) (by omega)).mpr q9)
                  refine lv_aload_n hx hb dX1_readAll_92 rfl (lv_at hl 0 rfl) ?_
                  refine lv_iconst (v := nI 1) hx hb dX1_readAll_93 (by decide) ?_
                  refine lv_aload_n hx hb dX1_readAll_94 rfl (lv_at hl 0 rfl) ?_
                  refine va_get (D := gD G) (ci := 1) (v := .int (q.1 1)) (C := RX1) (T := TX1) (N := 10) hx hb hts hiX1 hown hK hP 0 rfl rfl 1 (by decide) k15 (fun _ h9 => h9) rfl dX1_readAll_95 ?_
                  refine topE ((hR.1 1 (by decide)).trans hlen) ?_
                  refine cXv (As := [.int (nI 1), .int (nI len)]) (rest := []) (S := oS × oS) (wa := rv G h (oI q 2 (nI b64)) pw) (w1 := fun v => rv G h v.1 v.2) ⟨hx, hb, hml, hown, hts⟩ (mt_X1_fail l G h _ (oI q 2 (nI b64)) pw (nI 1) (nI len)) (cwV 2 hts gX1_readAll_X1_fail rfl rfl rfl (by decide +kernel) ⟨Nat.le_of_ble_eq_true rfl, Nat.le_of_ble_eq_true rfl⟩) hK hN hP hD hS hA (fun _ => rfl) 0 1 rfl rfl rfl hl.1 rfl (Nat.le_of_ble_eq_true rfl) ⟨Nat.zero_le _, Nat.zero_le _⟩ dX1_readAll_98 (fun u98 H locs hw98 hP hD hS => ?_)
                  obtain ⟨q98, rfl, hR98⟩ := hw98
                  have hP : PP G (rv G h q98 pw) H := hP
                  have hD : va_D A (rv G h q98 pw) := hD
                  refine lv_aload_n hx hb dX1_readAll_101 rfl (lv_at hl 0 rfl) ?_
                  refine lv_iconst (v := nI 0) hx hb dX1_readAll_102 (by decide) ?_
                  refine va_put (D := gD G) (ci := 1) (v := .int (nI 0)) (ty := .int) (C := RX1) (T := TX1) (N := 10) hx hb hts hiX1 tyX1 tyX1_ok nmX1 hown hK hP hD hS 0 rfl rfl 1 (by decide) k15 (fun _ h9 => h9) rfl (by decide +kernel) (rfl) (rfl) (Nat.le_of_ble_eq_true rfl) dX1_readAll_103 (fun H locs hP hD hS => ?_)
                  have hP : PP G (rv G h (oI q98 1 (nI 0)) pw) H := hP
                  have hD : va_D A (rv G h (oI q98 1 (nI 0)) pw) := hD
                  refine lv_aload_n hx hb dX1_readAll_106 rfl (lv_at hl 0 rfl) ?_
                  refine va_get (D := gD G) (ci := 1) (v := .int (q98.1 4)) (C := RX1) (T := TX1) (N := 10) hx hb hts hiX1 hown hK hP 0 rfl rfl 4 (by decide) k25 (fun _ h9 => h9) rfl dX1_readAll_107 ?_
                  exact W.iret (v := q98.1 4) hx hb hr (fun t ht hW => ⟨⟨q98.1 4, (oI q98 1 (nI 0), pw), rfl, ⟨_, _, n, mq, rfl, rfl, en, by omega, em, by omega⟩, show PP G (rv G h (oI q98 1 (nI 0)) pw) t.heap by rw [ht]; exact hP⟩, hS.F ht⟩) hS.2.2 dX1_readAll_110
              · skip
                have hP : PP G (rv G h (oI q 2 (nI b64)) pw) H := hP
                have hD : va_D A (rv G h (oI q 2 (nI b64)) pw) := hD
                refine lv_iconst (v := (-1 : Int32)) hx hb dX1_readAll_67 (by decide) ?_
                refine lv_icmp_eq (tgt := 85) hx hb dX1_readAll_68 (by decide) (fun c68 => ?_) (fun c68 => ?_)
                · skip
                  refine lv_aload_n hx hb dX1_readAll_85 rfl (lv_at hl 0 rfl) ?_
                  refine va_get (D := gD G) (ci := 1) (v := .int (q.1 8)) (C := RX1) (T := TX1) (N := 10) hx hb hts hiX1 hown hK hP 0 rfl rfl 8 (by decide) k38 (fun _ h9 => h9) rfl dX1_readAll_86 ?_
                  refine topE hd ?_
                  refine lv_if_le (tgt := 101) hx hb dX1_readAll_89 (by decide) (fun c89 => ?_) (fun c89 => ?_)
                  · skip
                    have n89 : d ≤ 0 := (nI_leI (a := d) (b := 0) (by omega) (by omega)).mp c89
                    refine lv_aload_n hx hb dX1_readAll_101 rfl (lv_at hl 0 rfl) ?_
                    refine lv_iconst (v := nI 0) hx hb dX1_readAll_102 (by decide) ?_
                    refine va_put (D := gD G) (ci := 1) (v := .int (nI 0)) (ty := .int) (C := RX1) (T := TX1) (N := 10) hx hb hts hiX1 tyX1 tyX1_ok nmX1 hown hK hP hD hS 0 rfl rfl 1 (by decide) k15 (fun _ h9 => h9) rfl (by decide +kernel) (rfl) (rfl) (Nat.le_of_ble_eq_true rfl) dX1_readAll_103 (fun H locs hP hD hS => ?_)
                    have hP : PP G (rv G h (oI (oI q 2 (nI b64)) 1 (nI 0)) pw) H := hP
                    have hD : va_D A (rv G h (oI (oI q 2 (nI b64)) 1 (nI 0)) pw) := hD
                    refine lv_aload_n hx hb dX1_readAll_106 rfl (lv_at hl 0 rfl) ?_
                    refine va_get (D := gD G) (ci := 1) (v := .int (q.1 4)) (C := RX1) (T := TX1) (N := 10) hx hb hts hiX1 hown hK hP 0 rfl rfl 4 (by decide) k25 (fun _ h9 => h9) rfl dX1_readAll_107 ?_
                    exact W.iret (v := q.1 4) hx hb hr (fun t ht hW => ⟨⟨q.1 4, (oI (oI q 2 (nI b64)) 1 (nI 0), pw), rfl, ⟨_, _, n, mq, rfl, rfl, en, by omega, em, by omega⟩, show PP G (rv G h (oI (oI q 2 (nI b64)) 1 (nI 0)) pw) t.heap by rw [ht]; exact hP⟩, hS.F ht⟩) hS.2.2 dX1_readAll_110
                  · skip
                    have n89 : ¬ (d ≤ 0) := fun q9 => c89 ((nI_leI (a := d) (b := 0) (by omega) (by omega)).mpr q9)
                    refine lv_aload_n hx hb dX1_readAll_92 rfl (lv_at hl 0 rfl) ?_
                    refine lv_iconst (v := nI 1) hx hb dX1_readAll_93 (by decide) ?_
                    refine lv_aload_n hx hb dX1_readAll_94 rfl (lv_at hl 0 rfl) ?_
                    refine va_get (D := gD G) (ci := 1) (v := .int (q.1 1)) (C := RX1) (T := TX1) (N := 10) hx hb hts hiX1 hown hK hP 0 rfl rfl 1 (by decide) k15 (fun _ h9 => h9) rfl dX1_readAll_95 ?_
                    refine topE ((hR.1 1 (by decide)).trans hlen) ?_
                    refine cXv (As := [.int (nI 1), .int (nI len)]) (rest := []) (S := oS × oS) (wa := rv G h (oI q 2 (nI b64)) pw) (w1 := fun v => rv G h v.1 v.2) ⟨hx, hb, hml, hown, hts⟩ (mt_X1_fail l G h _ (oI q 2 (nI b64)) pw (nI 1) (nI len)) (cwV 2 hts gX1_readAll_X1_fail rfl rfl rfl (by decide +kernel) ⟨Nat.le_of_ble_eq_true rfl, Nat.le_of_ble_eq_true rfl⟩) hK hN hP hD hS hA (fun _ => rfl) 0 1 rfl rfl rfl hl.1 rfl (Nat.le_of_ble_eq_true rfl) ⟨Nat.zero_le _, Nat.zero_le _⟩ dX1_readAll_98 (fun u98 H locs hw98 hP hD hS => ?_)
                    obtain ⟨q98, rfl, hR98⟩ := hw98
                    have hP : PP G (rv G h q98 pw) H := hP
                    have hD : va_D A (rv G h q98 pw) := hD
                    refine lv_aload_n hx hb dX1_readAll_101 rfl (lv_at hl 0 rfl) ?_
                    refine lv_iconst (v := nI 0) hx hb dX1_readAll_102 (by decide) ?_
                    refine va_put (D := gD G) (ci := 1) (v := .int (nI 0)) (ty := .int) (C := RX1) (T := TX1) (N := 10) hx hb hts hiX1 tyX1 tyX1_ok nmX1 hown hK hP hD hS 0 rfl rfl 1 (by decide) k15 (fun _ h9 => h9) rfl (by decide +kernel) (rfl) (rfl) (Nat.le_of_ble_eq_true rfl) dX1_readAll_103 (fun H locs hP hD hS => ?_)
                    have hP : PP G (rv G h (oI q98 1 (nI 0)) pw) H := hP
                    have hD : va_D A (rv G h (oI q98 1 (nI 0)) pw) := hD
                    refine lv_aload_n hx hb dX1_readAll_106 rfl (lv_at hl 0 rfl) ?_
                    refine va_get (D := gD G) (ci := 1) (v := .int (q98.1 4)) (C := RX1) (T := TX1) (N := 10) hx hb hts hiX1 hown hK hP 0 rfl rfl 4 (by decide) k25 (fun _ h9 => h9) rfl dX1_readAll_107 ?_
                    exact W.iret (v := q98.1 4) hx hb hr (fun t ht hW => ⟨⟨q98.1 4, (oI q98 1 (nI 0), pw), rfl, ⟨_, _, n, mq, rfl, rfl, en, by omega, em, by omega⟩, show PP G (rv G h (oI q98 1 (nI 0)) pw) t.heap by rw [ht]; exact hP⟩, hS.F ht⟩) hS.2.2 dX1_readAll_110
                · skip
                  refine lv_aload_n hx hb dX1_readAll_71 rfl (lv_at hl 0 rfl) ?_
                  refine lv_aload_n hx hb dX1_readAll_72 rfl (lv_at hl 0 rfl) ?_
                  refine cXi (As := []) (rest := [.ref (h 0)]) (S := oS × oS) (wa := rv G h (oI q 2 (nI b64)) pw) (w1 := fun v => rv G h v.1 v.2) ⟨hx, hb, hml, hown, hts⟩ (mt_X1_nextSign l G h _ (oI q 2 (nI b64)) pw len b64 ((hR.1 1 (by decide)).trans hlen) (rfl) (by first | assumption | omega) (by first | assumption | omega)) (cwV 0 hts gX1_readAll_X1_nextSign rfl rfl rfl (by decide +kernel) ⟨Nat.le_of_ble_eq_true rfl, Nat.le_of_ble_eq_true rfl⟩) hK hN hP hD hS hA (fun _ => rfl) 0 1 rfl rfl rfl hl.1 rfl (Nat.le_of_ble_eq_true rfl) ⟨Nat.zero_le _, Nat.zero_le _⟩ dX1_readAll_73 (fun r73 u73 H locs hw73 hP hD hS => ?_)
                  rcases hw73 with ⟨b73, rfl, hab73, hbn73, rfl⟩ | ⟨b73, rfl, hab73, hbn73, rfl⟩
                  · skip
                    have hP : PP G (rv G h (oI (oI q 2 (nI b64)) 2 (nI b73)) pw) H := hP
                    have hD : va_D A (rv G h (oI (oI q 2 (nI b64)) 2 (nI b73)) pw) := hD
                    refine cXv (As := [.int (-1 : Int32)]) (rest := []) (S := oS × oS) (wa := rv G h (oI (oI q 2 (nI b64)) 2 (nI b73)) pw) (w1 := fun v => rv G h v.1 v.2) ⟨hx, hb, hml, hown, hts⟩ (mt_X1_readItem l G h _ (oI (oI q 2 (nI b64)) 2 (nI b73)) pw len b73 d n mq (-1 : Int32) ((hR.1 1 (by decide)).trans hlen) (rfl) (hd) (en) (em) (by first | assumption | omega) (by first | assumption | omega) (by first | assumption | omega) (by first | assumption | omega) (by first | assumption | omega) (by first | exact (fun q => absurd rfl q) | exact (fun _ => by omega))) (cwV 1 hts gX1_readAll_X1_readItem rfl rfl rfl (by decide +kernel) ⟨Nat.le_of_ble_eq_true rfl, Nat.le_of_ble_eq_true rfl⟩) hK hN hP hD hS hA (fun _ => rfl) 0 1 rfl rfl rfl hl.1 rfl (Nat.le_of_ble_eq_true rfl) ⟨Nat.zero_le _, Nat.zero_le _⟩ dX1_readAll_76 (fun u76 H locs hw76 hP hD hS => ?_)
                    obtain ⟨q76, p76, b76, d76, n76, rfl, hR76, hb76, hbn76, hd76, hdn76, hV76, en76, hn76⟩ := hw76
                    have hP : PP G (rv G h q76 p76) H := hP
                    have hD : va_D A (rv G h q76 p76) := hD
                    refine lv_iinc (v := nI (k + 1)) (lv' := [(1, .int (nI (k + 1))), (0, .ref (h 0))]) hx hb dX1_readAll_79 hl (k := 1) rfl (nI_1 k) (by decide) rfl (fun ls hl => ?_)
                    refine lv_goto (tgt := 56) hx hb dX1_readAll_82 (by decide) ?_
                    exact ih56 (k + 1) q76 p76 b76 n d76 n76 (by first | assumption | omega) (by repeat (first | exact rel.refl _ | exact rel.mono (by assumption) (by decide) (by decide) | refine rel.I (by decide) ?_ | refine rel.A (by decide) ?_ | refine rel.trans ?_ (rel.mono (by assumption) (by decide) (by decide)))) (hb76) (by first | assumption | omega) (hd76) (by first | assumption | omega) ((hV76.1 0 (by decide)).trans (en)) (by first | assumption | omega) (en76) (by first | assumption | omega) (by omega) _ _ ls hP hD hS (lv_sub hl [1, 0] rfl)
                  · skip
                    have hP : PP G (rv G h (oI (oI q 2 (nI b64)) 2 (nI b73)) pw) H := hP
                    have hD : va_D A (rv G h (oI (oI q 2 (nI b64)) 2 (nI b73)) pw) := hD
                    refine cXv (As := [.int ((oI q 2 (nI b64)).2 0 b73)]) (rest := []) (S := oS × oS) (wa := rv G h (oI (oI q 2 (nI b64)) 2 (nI b73)) pw) (w1 := fun v => rv G h v.1 v.2) ⟨hx, hb, hml, hown, hts⟩ (mt_X1_readItem l G h _ (oI (oI q 2 (nI b64)) 2 (nI b73)) pw len b73 d n mq ((oI q 2 (nI b64)).2 0 b73) ((hR.1 1 (by decide)).trans hlen) (rfl) (hd) (en) (em) (by first | assumption | omega) (by first | assumption | omega) (by first | assumption | omega) (by first | assumption | omega) (by first | assumption | omega) (by first | exact (fun q => absurd rfl q) | exact (fun _ => by omega))) (cwV 1 hts gX1_readAll_X1_readItem rfl rfl rfl (by decide +kernel) ⟨Nat.le_of_ble_eq_true rfl, Nat.le_of_ble_eq_true rfl⟩) hK hN hP hD hS hA (fun _ => rfl) 0 1 rfl rfl rfl hl.1 rfl (Nat.le_of_ble_eq_true rfl) ⟨Nat.zero_le _, Nat.zero_le _⟩ dX1_readAll_76 (fun u76 H locs hw76 hP hD hS => ?_)
                    obtain ⟨q76, p76, b76, d76, n76, rfl, hR76, hb76, hbn76, hd76, hdn76, hV76, en76, hn76⟩ := hw76
                    have hP : PP G (rv G h q76 p76) H := hP
                    have hD : va_D A (rv G h q76 p76) := hD
                    refine lv_iinc (v := nI (k + 1)) (lv' := [(1, .int (nI (k + 1))), (0, .ref (h 0))]) hx hb dX1_readAll_79 hl (k := 1) rfl (nI_1 k) (by decide) rfl (fun ls hl => ?_)
                    refine lv_goto (tgt := 56) hx hb dX1_readAll_82 (by decide) ?_
                    exact ih56 (k + 1) q76 p76 b76 n d76 n76 (by first | assumption | omega) (by repeat (first | exact rel.refl _ | exact rel.mono (by assumption) (by decide) (by decide) | refine rel.I (by decide) ?_ | refine rel.A (by decide) ?_ | refine rel.trans ?_ (rel.mono (by assumption) (by decide) (by decide)))) (hb76) (by first | assumption | omega) (hd76) (by first | assumption | omega) ((hV76.1 0 (by decide)).trans (en)) (by first | assumption | omega) (en76) (by first | assumption | omega) (by omega) _ _ ls hP hD hS (lv_sub hl [1, 0] rfl)
        exact LP56 (240 - 0 + 1) 0 q pw b n 0 0 (by first | assumption | omega) (by repeat (first | exact rel.refl _ | exact rel.mono (by assumption) (by decide) (by decide) | refine rel.I (by decide) ?_ | refine rel.A (by decide) ?_ | refine rel.trans ?_ (rel.mono (by assumption) (by decide) (by decide)))) (hbq) (by first | assumption | omega) (hd) (by first | assumption | omega) (en) (by first | assumption | omega) (em) (by first | assumption | omega) (Nat.lt_succ_self _) _ _ ls hP hD hS (lv_sub hl [1, 0] rfl)
      · skip
        have n32 : ¬ (24 < k) := fun q9 => c32 ((nI_ltI (a := 24) (b := k) (by omega) (by omega)).mpr q9)
        refine lv_aload_n hx hb dX1_readAll_35 rfl (lv_at hl 0 rfl) ?_
        refine cXi (As := []) (rest := []) (S := oS × oS) (wa := rv G h q pw) (w1 := fun v => rv G h v.1 v.2) ⟨hx, hb, hml, hown, hts⟩ (mt_X1_nextSign l G h _ q pw len b ((hR.1 1 (by decide)).trans hlen) (hbq) (by first | assumption | omega) (by first | assumption | omega)) (cwV 0 hts gX1_readAll_X1_nextSign rfl rfl rfl (by decide +kernel) ⟨Nat.le_of_ble_eq_true rfl, Nat.le_of_ble_eq_true rfl⟩) hK hN hP hD hS hA (fun _ => rfl) 0 1 rfl rfl rfl hl.1 rfl (Nat.le_of_ble_eq_true rfl) ⟨Nat.zero_le _, Nat.zero_le _⟩ dX1_readAll_36 (fun r36 u36 H locs hw36 hP hD hS => ?_)
        rcases hw36 with ⟨b36, rfl, hab36, hbn36, rfl⟩ | ⟨b36, rfl, hab36, hbn36, rfl⟩
        · skip
          have hP : PP G (rv G h (oI q 2 (nI b36)) pw) H := hP
          have hD : va_D A (rv G h (oI q 2 (nI b36)) pw) := hD
          refine lv_bipush (v := nI 118) hx hb dX1_readAll_39 (by decide) ?_
          refine lv_icmp_ne (tgt := 54) hx hb dX1_readAll_41 (by decide) (fun _ => ?_) (fun c9 => absurd c9 (by decide))
          refine lv_iconst (v := nI 0) hx hb dX1_readAll_54 (by decide) ?_
          refine lv_istore_n (lv' := [(1, .int (nI 0)), (0, .ref (h 0))]) hx hb dX1_readAll_55 rfl hl (by decide) rfl (fun ls hl => ?_)
          have LP56 : ∀ (n56m : Nat), ∀ (k : Nat) (q : oS) (pw : oS) (b : Nat) (n : Nat) (d : Nat) (mq : Nat) (hk : k ≤ 240) (hR : rel [2, 3, 4, 5, 8] [6, 7] rd q) (hbq : q.1 2 = nI b) (hbn : b ≤ len) (hd : q.1 8 = nI d) (hdn : d ≤ 48) (en : pw.1 0 = nI n) (hn : n ≤ 24) (em : pw.1 5 = nI mq) (hm : mq ≤ 120), (240 - k < n56m) → ∀ (H : Heap) (locs : List Loc) (ls : Array Slot), PP G (rv G h q pw) H → va_D A (rv G h q pw) → va_S A s.heap H locs → lv_has ls 2 [(0, .ref (h 0)), (1, .int (nI k))] → W p l e (headSpec wsX1_readAll ({ frames := 5, cells := 0, slots := 0, locals := 117 })).room s m ([.ref (h 0)] : List Value).toArray below meth c H locs 0 0 (MQ below (va_Qi (fun (r : Int32) (v : oS × oS) => ∃ q p n m, v = (q, p) ∧ q.1 1 = nI 0 ∧ p.1 0 = nI n ∧ n ≤ 24 ∧ p.1 5 = nI m ∧ m ≤ 120) (fun v t => PP G (rv G h v.1 v.2) t.heap) A) ([.ref (h 0)] : List Value).toArray s 0 0 A) (F0 m 56 ls []) := by
            intro n56m
            induction n56m with
            | zero => intro k q pw b n d mq hk hR hbq hbn hd hdn en hn em hm hmu H locs ls hP hD hS hl; exact absurd hmu (Nat.not_lt_zero _)
            | succ n56m ih56 =>
              intro k q pw b n d mq hk hR hbq hbn hd hdn en hn em hm hmu H locs ls hP hD hS hl
              refine lv_iload_n hx hb dX1_readAll_56 rfl (lv_at hl 1 rfl) ?_
              refine lv_sipush (v := nI 240) hx hb dX1_readAll_57 (by decide) ?_
              refine lv_icmp_ge (tgt := 85) hx hb dX1_readAll_60 (by decide) (fun c60 => ?_) (fun c60 => ?_)
              · skip
                have n60 : 240 ≤ k := (nI_leI (a := 240) (b := k) (by omega) (by omega)).mp c60
                refine lv_aload_n hx hb dX1_readAll_85 rfl (lv_at hl 0 rfl) ?_
                refine va_get (D := gD G) (ci := 1) (v := .int (q.1 8)) (C := RX1) (T := TX1) (N := 10) hx hb hts hiX1 hown hK hP 0 rfl rfl 8 (by decide) k38 (fun _ h9 => h9) rfl dX1_readAll_86 ?_
                refine topE hd ?_
                refine lv_if_le (tgt := 101) hx hb dX1_readAll_89 (by decide) (fun c89 => ?_) (fun c89 => ?_)
                · skip
                  have n89 : d ≤ 0 := (nI_leI (a := d) (b := 0) (by omega) (by omega)).mp c89
                  refine lv_aload_n hx hb dX1_readAll_101 rfl (lv_at hl 0 rfl) ?_
                  refine lv_iconst (v := nI 0) hx hb dX1_readAll_102 (by decide) ?_
                  refine va_put (D := gD G) (ci := 1) (v := .int (nI 0)) (ty := .int) (C := RX1) (T := TX1) (N := 10) hx hb hts hiX1 tyX1 tyX1_ok nmX1 hown hK hP hD hS 0 rfl rfl 1 (by decide) k15 (fun _ h9 => h9) rfl (by decide +kernel) (rfl) (rfl) (Nat.le_of_ble_eq_true rfl) dX1_readAll_103 (fun H locs hP hD hS => ?_)
                  have hP : PP G (rv G h (oI q 1 (nI 0)) pw) H := hP
                  have hD : va_D A (rv G h (oI q 1 (nI 0)) pw) := hD
                  refine lv_aload_n hx hb dX1_readAll_106 rfl (lv_at hl 0 rfl) ?_
                  refine va_get (D := gD G) (ci := 1) (v := .int (q.1 4)) (C := RX1) (T := TX1) (N := 10) hx hb hts hiX1 hown hK hP 0 rfl rfl 4 (by decide) k25 (fun _ h9 => h9) rfl dX1_readAll_107 ?_
                  exact W.iret (v := q.1 4) hx hb hr (fun t ht hW => ⟨⟨q.1 4, (oI q 1 (nI 0), pw), rfl, ⟨_, _, n, mq, rfl, rfl, en, by omega, em, by omega⟩, show PP G (rv G h (oI q 1 (nI 0)) pw) t.heap by rw [ht]; exact hP⟩, hS.F ht⟩) hS.2.2 dX1_readAll_110
                · skip
                  have n89 : ¬ (d ≤ 0) := fun q9 => c89 ((nI_leI (a := d) (b := 0) (by omega) (by omega)).mpr q9)
                  refine lv_aload_n hx hb dX1_readAll_92 rfl (lv_at hl 0 rfl) ?_
                  refine lv_iconst (v := nI 1) hx hb dX1_readAll_93 (by decide) ?_
                  refine lv_aload_n hx hb dX1_readAll_94 rfl (lv_at hl 0 rfl) ?_
                  refine va_get (D := gD G) (ci := 1) (v := .int (q.1 1)) (C := RX1) (T := TX1) (N := 10) hx hb hts hiX1 hown hK hP 0 rfl rfl 1 (by decide) k15 (fun _ h9 => h9) rfl dX1_readAll_95 ?_
                  refine topE ((hR.1 1 (by decide)).trans hlen) ?_
                  refine cXv (As := [.int (nI 1), .int (nI len)]) (rest := []) (S := oS × oS) (wa := rv G h q pw) (w1 := fun v => rv G h v.1 v.2) ⟨hx, hb, hml, hown, hts⟩ (mt_X1_fail l G h _ q pw (nI 1) (nI len)) (cwV 2 hts gX1_readAll_X1_fail rfl rfl rfl (by decide +kernel) ⟨Nat.le_of_ble_eq_true rfl, Nat.le_of_ble_eq_true rfl⟩) hK hN hP hD hS hA (fun _ => rfl) 0 1 rfl rfl rfl hl.1 rfl (Nat.le_of_ble_eq_true rfl) ⟨Nat.zero_le _, Nat.zero_le _⟩ dX1_readAll_98 (fun u98 H locs hw98 hP hD hS => ?_)
                  obtain ⟨q98, rfl, hR98⟩ := hw98
                  have hP : PP G (rv G h q98 pw) H := hP
                  have hD : va_D A (rv G h q98 pw) := hD
                  refine lv_aload_n hx hb dX1_readAll_101 rfl (lv_at hl 0 rfl) ?_
                  refine lv_iconst (v := nI 0) hx hb dX1_readAll_102 (by decide) ?_
                  refine va_put (D := gD G) (ci := 1) (v := .int (nI 0)) (ty := .int) (C := RX1) (T := TX1) (N := 10) hx hb hts hiX1 tyX1 tyX1_ok nmX1 hown hK hP hD hS 0 rfl rfl 1 (by decide) k15 (fun _ h9 => h9) rfl (by decide +kernel) (rfl) (rfl) (Nat.le_of_ble_eq_true rfl) dX1_readAll_103 (fun H locs hP hD hS => ?_)
                  have hP : PP G (rv G h (oI q98 1 (nI 0)) pw) H := hP
                  have hD : va_D A (rv G h (oI q98 1 (nI 0)) pw) := hD
                  refine lv_aload_n hx hb dX1_readAll_106 rfl (lv_at hl 0 rfl) ?_
                  refine va_get (D := gD G) (ci := 1) (v := .int (q98.1 4)) (C := RX1) (T := TX1) (N := 10) hx hb hts hiX1 hown hK hP 0 rfl rfl 4 (by decide) k25 (fun _ h9 => h9) rfl dX1_readAll_107 ?_
                  exact W.iret (v := q98.1 4) hx hb hr (fun t ht hW => ⟨⟨q98.1 4, (oI q98 1 (nI 0), pw), rfl, ⟨_, _, n, mq, rfl, rfl, en, by omega, em, by omega⟩, show PP G (rv G h (oI q98 1 (nI 0)) pw) t.heap by rw [ht]; exact hP⟩, hS.F ht⟩) hS.2.2 dX1_readAll_110
              · skip
                have n60 : ¬ (240 ≤ k) := fun q9 => c60 ((nI_leI (a := 240) (b := k) (by omega) (by omega)).mpr q9)
                refine lv_aload_n hx hb dX1_readAll_63 rfl (lv_at hl 0 rfl) ?_
                refine cXi (As := []) (rest := []) (S := oS × oS) (wa := rv G h q pw) (w1 := fun v => rv G h v.1 v.2) ⟨hx, hb, hml, hown, hts⟩ (mt_X1_nextSign l G h _ q pw len b ((hR.1 1 (by decide)).trans hlen) (hbq) (by first | assumption | omega) (by first | assumption | omega)) (cwV 0 hts gX1_readAll_X1_nextSign rfl rfl rfl (by decide +kernel) ⟨Nat.le_of_ble_eq_true rfl, Nat.le_of_ble_eq_true rfl⟩) hK hN hP hD hS hA (fun _ => rfl) 0 1 rfl rfl rfl hl.1 rfl (Nat.le_of_ble_eq_true rfl) ⟨Nat.zero_le _, Nat.zero_le _⟩ dX1_readAll_64 (fun r64 u64 H locs hw64 hP hD hS => ?_)
                rcases hw64 with ⟨b64, rfl, hab64, hbn64, rfl⟩ | ⟨b64, rfl, hab64, hbn64, rfl⟩
                · skip
                  have hP : PP G (rv G h (oI q 2 (nI b64)) pw) H := hP
                  have hD : va_D A (rv G h (oI q 2 (nI b64)) pw) := hD
                  refine lv_iconst (v := (-1 : Int32)) hx hb dX1_readAll_67 (by decide) ?_
                  refine lv_icmp_eq (tgt := 85) hx hb dX1_readAll_68 (by decide) (fun _ => ?_) (fun c9 => absurd (by decide) c9)
                  refine lv_aload_n hx hb dX1_readAll_85 rfl (lv_at hl 0 rfl) ?_
                  refine va_get (D := gD G) (ci := 1) (v := .int (q.1 8)) (C := RX1) (T := TX1) (N := 10) hx hb hts hiX1 hown hK hP 0 rfl rfl 8 (by decide) k38 (fun _ h9 => h9) rfl dX1_readAll_86 ?_
                  refine topE hd ?_
                  refine lv_if_le (tgt := 101) hx hb dX1_readAll_89 (by decide) (fun c89 => ?_) (fun c89 => ?_)
                  · skip
                    have n89 : d ≤ 0 := (nI_leI (a := d) (b := 0) (by omega) (by omega)).mp c89
                    refine lv_aload_n hx hb dX1_readAll_101 rfl (lv_at hl 0 rfl) ?_
                    refine lv_iconst (v := nI 0) hx hb dX1_readAll_102 (by decide) ?_
                    refine va_put (D := gD G) (ci := 1) (v := .int (nI 0)) (ty := .int) (C := RX1) (T := TX1) (N := 10) hx hb hts hiX1 tyX1 tyX1_ok nmX1 hown hK hP hD hS 0 rfl rfl 1 (by decide) k15 (fun _ h9 => h9) rfl (by decide +kernel) (rfl) (rfl) (Nat.le_of_ble_eq_true rfl) dX1_readAll_103 (fun H locs hP hD hS => ?_)
                    have hP : PP G (rv G h (oI (oI q 2 (nI b64)) 1 (nI 0)) pw) H := hP
                    have hD : va_D A (rv G h (oI (oI q 2 (nI b64)) 1 (nI 0)) pw) := hD
                    refine lv_aload_n hx hb dX1_readAll_106 rfl (lv_at hl 0 rfl) ?_
                    refine va_get (D := gD G) (ci := 1) (v := .int (q.1 4)) (C := RX1) (T := TX1) (N := 10) hx hb hts hiX1 hown hK hP 0 rfl rfl 4 (by decide) k25 (fun _ h9 => h9) rfl dX1_readAll_107 ?_
                    exact W.iret (v := q.1 4) hx hb hr (fun t ht hW => ⟨⟨q.1 4, (oI (oI q 2 (nI b64)) 1 (nI 0), pw), rfl, ⟨_, _, n, mq, rfl, rfl, en, by omega, em, by omega⟩, show PP G (rv G h (oI (oI q 2 (nI b64)) 1 (nI 0)) pw) t.heap by rw [ht]; exact hP⟩, hS.F ht⟩) hS.2.2 dX1_readAll_110
                  · skip
                    have n89 : ¬ (d ≤ 0) := fun q9 => c89 ((nI_leI (a := d) (b := 0) (by omega) (by omega)).mpr q9)
                    refine lv_aload_n hx hb dX1_readAll_92 rfl (lv_at hl 0 rfl) ?_
                    refine lv_iconst (v := nI 1) hx hb dX1_readAll_93 (by decide) ?_
                    refine lv_aload_n hx hb dX1_readAll_94 rfl (lv_at hl 0 rfl) ?_
                    refine va_get (D := gD G) (ci := 1) (v := .int (q.1 1)) (C := RX1) (T := TX1) (N := 10) hx hb hts hiX1 hown hK hP 0 rfl rfl 1 (by decide) k15 (fun _ h9 => h9) rfl dX1_readAll_95 ?_
                    refine topE ((hR.1 1 (by decide)).trans hlen) ?_
                    refine cXv (As := [.int (nI 1), .int (nI len)]) (rest := []) (S := oS × oS) (wa := rv G h (oI q 2 (nI b64)) pw) (w1 := fun v => rv G h v.1 v.2) ⟨hx, hb, hml, hown, hts⟩ (mt_X1_fail l G h _ (oI q 2 (nI b64)) pw (nI 1) (nI len)) (cwV 2 hts gX1_readAll_X1_fail rfl rfl rfl (by decide +kernel) ⟨Nat.le_of_ble_eq_true rfl, Nat.le_of_ble_eq_true rfl⟩) hK hN hP hD hS hA (fun _ => rfl) 0 1 rfl rfl rfl hl.1 rfl (Nat.le_of_ble_eq_true rfl) ⟨Nat.zero_le _, Nat.zero_le _⟩ dX1_readAll_98 (fun u98 H locs hw98 hP hD hS => ?_)
                    obtain ⟨q98, rfl, hR98⟩ := hw98
                    have hP : PP G (rv G h q98 pw) H := hP
                    have hD : va_D A (rv G h q98 pw) := hD
                    refine lv_aload_n hx hb dX1_readAll_101 rfl (lv_at hl 0 rfl) ?_
                    refine lv_iconst (v := nI 0) hx hb dX1_readAll_102 (by decide) ?_
                    refine va_put (D := gD G) (ci := 1) (v := .int (nI 0)) (ty := .int) (C := RX1) (T := TX1) (N := 10) hx hb hts hiX1 tyX1 tyX1_ok nmX1 hown hK hP hD hS 0 rfl rfl 1 (by decide) k15 (fun _ h9 => h9) rfl (by decide +kernel) (rfl) (rfl) (Nat.le_of_ble_eq_true rfl) dX1_readAll_103 (fun H locs hP hD hS => ?_)
                    have hP : PP G (rv G h (oI q98 1 (nI 0)) pw) H := hP
                    have hD : va_D A (rv G h (oI q98 1 (nI 0)) pw) := hD
                    refine lv_aload_n hx hb dX1_readAll_106 rfl (lv_at hl 0 rfl) ?_
                    refine va_get (D := gD G) (ci := 1) (v := .int (q98.1 4)) (C := RX1) (T := TX1) (N := 10) hx hb hts hiX1 hown hK hP 0 rfl rfl 4 (by decide) k25 (fun _ h9 => h9) rfl dX1_readAll_107 ?_
                    exact W.iret (v := q98.1 4) hx hb hr (fun t ht hW => ⟨⟨q98.1 4, (oI q98 1 (nI 0), pw), rfl, ⟨_, _, n, mq, rfl, rfl, en, by omega, em, by omega⟩, show PP G (rv G h (oI q98 1 (nI 0)) pw) t.heap by rw [ht]; exact hP⟩, hS.F ht⟩) hS.2.2 dX1_readAll_110
                · skip
                  have hP : PP G (rv G h (oI q 2 (nI b64)) pw) H := hP
                  have hD : va_D A (rv G h (oI q 2 (nI b64)) pw) := hD
                  refine lv_iconst (v := (-1 : Int32)) hx hb dX1_readAll_67 (by decide) ?_
                  refine lv_icmp_eq (tgt := 85) hx hb dX1_readAll_68 (by decide) (fun c68 => ?_) (fun c68 => ?_)
                  · skip
                    refine lv_aload_n hx hb dX1_readAll_85 rfl (lv_at hl 0 rfl) ?_
                    refine va_get (D := gD G) (ci := 1) (v := .int (q.1 8)) (C := RX1) (T := TX1) (N := 10) hx hb hts hiX1 hown hK hP 0 rfl rfl 8 (by decide) k38 (fun _ h9 => h9) rfl dX1_readAll_86 ?_
                    refine topE hd ?_
                    refine lv_if_le (tgt := 101) hx hb dX1_readAll_89 (by decide) (fun c89 => ?_) (fun c89 => ?_)
                    · skip
                      have n89 : d ≤ 0 := (nI_leI (a := d) (b := 0) (by omega) (by omega)).mp c89
                      refine lv_aload_n hx hb dX1_readAll_101 rfl (lv_at hl 0 rfl) ?_
                      refine lv_iconst (v := nI 0) hx hb dX1_readAll_102 (by decide) ?_
                      refine va_put (D := gD G) (ci := 1) (v := .int (nI 0)) (ty := .int) (C := RX1) (T := TX1) (N := 10) hx hb hts hiX1 tyX1 tyX1_ok nmX1 hown hK hP hD hS 0 rfl rfl 1 (by decide) k15 (fun _ h9 => h9) rfl (by decide +kernel) (rfl) (rfl) (Nat.le_of_ble_eq_true rfl) dX1_readAll_103 (fun H locs hP hD hS => ?_)
                      have hP : PP G (rv G h (oI (oI q 2 (nI b64)) 1 (nI 0)) pw) H := hP
                      have hD : va_D A (rv G h (oI (oI q 2 (nI b64)) 1 (nI 0)) pw) := hD
                      refine lv_aload_n hx hb dX1_readAll_106 rfl (lv_at hl 0 rfl) ?_
                      refine va_get (D := gD G) (ci := 1) (v := .int (q.1 4)) (C := RX1) (T := TX1) (N := 10) hx hb hts hiX1 hown hK hP 0 rfl rfl 4 (by decide) k25 (fun _ h9 => h9) rfl dX1_readAll_107 ?_
                      exact W.iret (v := q.1 4) hx hb hr (fun t ht hW => ⟨⟨q.1 4, (oI (oI q 2 (nI b64)) 1 (nI 0), pw), rfl, ⟨_, _, n, mq, rfl, rfl, en, by omega, em, by omega⟩, show PP G (rv G h (oI (oI q 2 (nI b64)) 1 (nI 0)) pw) t.heap by rw [ht]; exact hP⟩, hS.F ht⟩) hS.2.2 dX1_readAll_110
                    · skip
                      have n89 : ¬ (d ≤ 0) := fun q9 => c89 ((nI_leI (a := d) (b := 0) (by omega) (by omega)).mpr q9)
                      refine lv_aload_n hx hb dX1_readAll_92 rfl (lv_at hl 0 rfl) ?_
                      refine lv_iconst (v := nI 1) hx hb dX1_readAll_93 (by decide) ?_
                      refine lv_aload_n hx hb dX1_readAll_94 rfl (lv_at hl 0 rfl) ?_
                      refine va_get (D := gD G) (ci := 1) (v := .int (q.1 1)) (C := RX1) (T := TX1) (N := 10) hx hb hts hiX1 hown hK hP 0 rfl rfl 1 (by decide) k15 (fun _ h9 => h9) rfl dX1_readAll_95 ?_
                      refine topE ((hR.1 1 (by decide)).trans hlen) ?_
                      refine cXv (As := [.int (nI 1), .int (nI len)]) (rest := []) (S := oS × oS) (wa := rv G h (oI q 2 (nI b64)) pw) (w1 := fun v => rv G h v.1 v.2) ⟨hx, hb, hml, hown, hts⟩ (mt_X1_fail l G h _ (oI q 2 (nI b64)) pw (nI 1) (nI len)) (cwV 2 hts gX1_readAll_X1_fail rfl rfl rfl (by decide +kernel) ⟨Nat.le_of_ble_eq_true rfl, Nat.le_of_ble_eq_true rfl⟩) hK hN hP hD hS hA (fun _ => rfl) 0 1 rfl rfl rfl hl.1 rfl (Nat.le_of_ble_eq_true rfl) ⟨Nat.zero_le _, Nat.zero_le _⟩ dX1_readAll_98 (fun u98 H locs hw98 hP hD hS => ?_)
                      obtain ⟨q98, rfl, hR98⟩ := hw98
                      have hP : PP G (rv G h q98 pw) H := hP
                      have hD : va_D A (rv G h q98 pw) := hD
                      refine lv_aload_n hx hb dX1_readAll_101 rfl (lv_at hl 0 rfl) ?_
                      refine lv_iconst (v := nI 0) hx hb dX1_readAll_102 (by decide) ?_
                      refine va_put (D := gD G) (ci := 1) (v := .int (nI 0)) (ty := .int) (C := RX1) (T := TX1) (N := 10) hx hb hts hiX1 tyX1 tyX1_ok nmX1 hown hK hP hD hS 0 rfl rfl 1 (by decide) k15 (fun _ h9 => h9) rfl (by decide +kernel) (rfl) (rfl) (Nat.le_of_ble_eq_true rfl) dX1_readAll_103 (fun H locs hP hD hS => ?_)
                      have hP : PP G (rv G h (oI q98 1 (nI 0)) pw) H := hP
                      have hD : va_D A (rv G h (oI q98 1 (nI 0)) pw) := hD
                      refine lv_aload_n hx hb dX1_readAll_106 rfl (lv_at hl 0 rfl) ?_
                      refine va_get (D := gD G) (ci := 1) (v := .int (q98.1 4)) (C := RX1) (T := TX1) (N := 10) hx hb hts hiX1 hown hK hP 0 rfl rfl 4 (by decide) k25 (fun _ h9 => h9) rfl dX1_readAll_107 ?_
                      exact W.iret (v := q98.1 4) hx hb hr (fun t ht hW => ⟨⟨q98.1 4, (oI q98 1 (nI 0), pw), rfl, ⟨_, _, n, mq, rfl, rfl, en, by omega, em, by omega⟩, show PP G (rv G h (oI q98 1 (nI 0)) pw) t.heap by rw [ht]; exact hP⟩, hS.F ht⟩) hS.2.2 dX1_readAll_110
                  · skip
                    refine lv_aload_n hx hb dX1_readAll_71 rfl (lv_at hl 0 rfl) ?_
                    refine lv_aload_n hx hb dX1_readAll_72 rfl (lv_at hl 0 rfl) ?_
                    refine cXi (As := []) (rest := [.ref (h 0)]) (S := oS × oS) (wa := rv G h (oI q 2 (nI b64)) pw) (w1 := fun v => rv G h v.1 v.2) ⟨hx, hb, hml, hown, hts⟩ (mt_X1_nextSign l G h _ (oI q 2 (nI b64)) pw len b64 ((hR.1 1 (by decide)).trans hlen) (rfl) (by first | assumption | omega) (by first | assumption | omega)) (cwV 0 hts gX1_readAll_X1_nextSign rfl rfl rfl (by decide +kernel) ⟨Nat.le_of_ble_eq_true rfl, Nat.le_of_ble_eq_true rfl⟩) hK hN hP hD hS hA (fun _ => rfl) 0 1 rfl rfl rfl hl.1 rfl (Nat.le_of_ble_eq_true rfl) ⟨Nat.zero_le _, Nat.zero_le _⟩ dX1_readAll_73 (fun r73 u73 H locs hw73 hP hD hS => ?_)
                    rcases hw73 with ⟨b73, rfl, hab73, hbn73, rfl⟩ | ⟨b73, rfl, hab73, hbn73, rfl⟩
                    · skip
                      have hP : PP G (rv G h (oI (oI q 2 (nI b64)) 2 (nI b73)) pw) H := hP
                      have hD : va_D A (rv G h (oI (oI q 2 (nI b64)) 2 (nI b73)) pw) := hD
                      refine cXv (As := [.int (-1 : Int32)]) (rest := []) (S := oS × oS) (wa := rv G h (oI (oI q 2 (nI b64)) 2 (nI b73)) pw) (w1 := fun v => rv G h v.1 v.2) ⟨hx, hb, hml, hown, hts⟩ (mt_X1_readItem l G h _ (oI (oI q 2 (nI b64)) 2 (nI b73)) pw len b73 d n mq (-1 : Int32) ((hR.1 1 (by decide)).trans hlen) (rfl) (hd) (en) (em) (by first | assumption | omega) (by first | assumption | omega) (by first | assumption | omega) (by first | assumption | omega) (by first | assumption | omega) (by first | exact (fun q => absurd rfl q) | exact (fun _ => by omega))) (cwV 1 hts gX1_readAll_X1_readItem rfl rfl rfl (by decide +kernel) ⟨Nat.le_of_ble_eq_true rfl, Nat.le_of_ble_eq_true rfl⟩) hK hN hP hD hS hA (fun _ => rfl) 0 1 rfl rfl rfl hl.1 rfl (Nat.le_of_ble_eq_true rfl) ⟨Nat.zero_le _, Nat.zero_le _⟩ dX1_readAll_76 (fun u76 H locs hw76 hP hD hS => ?_)
                      obtain ⟨q76, p76, b76, d76, n76, rfl, hR76, hb76, hbn76, hd76, hdn76, hV76, en76, hn76⟩ := hw76
                      have hP : PP G (rv G h q76 p76) H := hP
                      have hD : va_D A (rv G h q76 p76) := hD
                      refine lv_iinc (v := nI (k + 1)) (lv' := [(1, .int (nI (k + 1))), (0, .ref (h 0))]) hx hb dX1_readAll_79 hl (k := 1) rfl (nI_1 k) (by decide) rfl (fun ls hl => ?_)
                      refine lv_goto (tgt := 56) hx hb dX1_readAll_82 (by decide) ?_
                      exact ih56 (k + 1) q76 p76 b76 n d76 n76 (by first | assumption | omega) (by repeat (first | exact rel.refl _ | exact rel.mono (by assumption) (by decide) (by decide) | refine rel.I (by decide) ?_ | refine rel.A (by decide) ?_ | refine rel.trans ?_ (rel.mono (by assumption) (by decide) (by decide)))) (hb76) (by first | assumption | omega) (hd76) (by first | assumption | omega) ((hV76.1 0 (by decide)).trans (en)) (by first | assumption | omega) (en76) (by first | assumption | omega) (by omega) _ _ ls hP hD hS (lv_sub hl [1, 0] rfl)
                    · skip
                      have hP : PP G (rv G h (oI (oI q 2 (nI b64)) 2 (nI b73)) pw) H := hP
                      have hD : va_D A (rv G h (oI (oI q 2 (nI b64)) 2 (nI b73)) pw) := hD
                      refine cXv (As := [.int ((oI q 2 (nI b64)).2 0 b73)]) (rest := []) (S := oS × oS) (wa := rv G h (oI (oI q 2 (nI b64)) 2 (nI b73)) pw) (w1 := fun v => rv G h v.1 v.2) ⟨hx, hb, hml, hown, hts⟩ (mt_X1_readItem l G h _ (oI (oI q 2 (nI b64)) 2 (nI b73)) pw len b73 d n mq ((oI q 2 (nI b64)).2 0 b73) ((hR.1 1 (by decide)).trans hlen) (rfl) (hd) (en) (em) (by first | assumption | omega) (by first | assumption | omega) (by first | assumption | omega) (by first | assumption | omega) (by first | assumption | omega) (by first | exact (fun q => absurd rfl q) | exact (fun _ => by omega))) (cwV 1 hts gX1_readAll_X1_readItem rfl rfl rfl (by decide +kernel) ⟨Nat.le_of_ble_eq_true rfl, Nat.le_of_ble_eq_true rfl⟩) hK hN hP hD hS hA (fun _ => rfl) 0 1 rfl rfl rfl hl.1 rfl (Nat.le_of_ble_eq_true rfl) ⟨Nat.zero_le _, Nat.zero_le _⟩ dX1_readAll_76 (fun u76 H locs hw76 hP hD hS => ?_)
                      obtain ⟨q76, p76, b76, d76, n76, rfl, hR76, hb76, hbn76, hd76, hdn76, hV76, en76, hn76⟩ := hw76
                      have hP : PP G (rv G h q76 p76) H := hP
                      have hD : va_D A (rv G h q76 p76) := hD
                      refine lv_iinc (v := nI (k + 1)) (lv' := [(1, .int (nI (k + 1))), (0, .ref (h 0))]) hx hb dX1_readAll_79 hl (k := 1) rfl (nI_1 k) (by decide) rfl (fun ls hl => ?_)
                      refine lv_goto (tgt := 56) hx hb dX1_readAll_82 (by decide) ?_
                      exact ih56 (k + 1) q76 p76 b76 n d76 n76 (by first | assumption | omega) (by repeat (first | exact rel.refl _ | exact rel.mono (by assumption) (by decide) (by decide) | refine rel.I (by decide) ?_ | refine rel.A (by decide) ?_ | refine rel.trans ?_ (rel.mono (by assumption) (by decide) (by decide)))) (hb76) (by first | assumption | omega) (hd76) (by first | assumption | omega) ((hV76.1 0 (by decide)).trans (en)) (by first | assumption | omega) (en76) (by first | assumption | omega) (by omega) _ _ ls hP hD hS (lv_sub hl [1, 0] rfl)
          exact LP56 (240 - 0 + 1) 0 (oI q 2 (nI b36)) pw b36 n 0 0 (by first | assumption | omega) (by repeat (first | exact rel.refl _ | exact rel.mono (by assumption) (by decide) (by decide) | refine rel.I (by decide) ?_ | refine rel.A (by decide) ?_ | refine rel.trans ?_ (rel.mono (by assumption) (by decide) (by decide)))) (rfl) (by first | assumption | omega) (hd) (by first | assumption | omega) (en) (by first | assumption | omega) (em) (by first | assumption | omega) (Nat.lt_succ_self _) _ _ ls hP hD hS (lv_sub hl [1, 0] rfl)
        · skip
          have hP : PP G (rv G h (oI q 2 (nI b36)) pw) H := hP
          have hD : va_D A (rv G h (oI q 2 (nI b36)) pw) := hD
          refine lv_bipush (v := nI 118) hx hb dX1_readAll_39 (by decide) ?_
          refine lv_icmp_ne (tgt := 54) hx hb dX1_readAll_41 (by decide) (fun c41 => ?_) (fun c41 => ?_)
          · skip
            refine lv_iconst (v := nI 0) hx hb dX1_readAll_54 (by decide) ?_
            refine lv_istore_n (lv' := [(1, .int (nI 0)), (0, .ref (h 0))]) hx hb dX1_readAll_55 rfl hl (by decide) rfl (fun ls hl => ?_)
            have LP56 : ∀ (n56m : Nat), ∀ (k : Nat) (q : oS) (pw : oS) (b : Nat) (n : Nat) (d : Nat) (mq : Nat) (hk : k ≤ 240) (hR : rel [2, 3, 4, 5, 8] [6, 7] rd q) (hbq : q.1 2 = nI b) (hbn : b ≤ len) (hd : q.1 8 = nI d) (hdn : d ≤ 48) (en : pw.1 0 = nI n) (hn : n ≤ 24) (em : pw.1 5 = nI mq) (hm : mq ≤ 120), (240 - k < n56m) → ∀ (H : Heap) (locs : List Loc) (ls : Array Slot), PP G (rv G h q pw) H → va_D A (rv G h q pw) → va_S A s.heap H locs → lv_has ls 2 [(0, .ref (h 0)), (1, .int (nI k))] → W p l e (headSpec wsX1_readAll ({ frames := 5, cells := 0, slots := 0, locals := 117 })).room s m ([.ref (h 0)] : List Value).toArray below meth c H locs 0 0 (MQ below (va_Qi (fun (r : Int32) (v : oS × oS) => ∃ q p n m, v = (q, p) ∧ q.1 1 = nI 0 ∧ p.1 0 = nI n ∧ n ≤ 24 ∧ p.1 5 = nI m ∧ m ≤ 120) (fun v t => PP G (rv G h v.1 v.2) t.heap) A) ([.ref (h 0)] : List Value).toArray s 0 0 A) (F0 m 56 ls []) := by
              intro n56m
              induction n56m with
              | zero => intro k q pw b n d mq hk hR hbq hbn hd hdn en hn em hm hmu H locs ls hP hD hS hl; exact absurd hmu (Nat.not_lt_zero _)
              | succ n56m ih56 =>
                intro k q pw b n d mq hk hR hbq hbn hd hdn en hn em hm hmu H locs ls hP hD hS hl
                refine lv_iload_n hx hb dX1_readAll_56 rfl (lv_at hl 1 rfl) ?_
                refine lv_sipush (v := nI 240) hx hb dX1_readAll_57 (by decide) ?_
                refine lv_icmp_ge (tgt := 85) hx hb dX1_readAll_60 (by decide) (fun c60 => ?_) (fun c60 => ?_)
                · skip
                  have n60 : 240 ≤ k := (nI_leI (a := 240) (b := k) (by omega) (by omega)).mp c60
                  refine lv_aload_n hx hb dX1_readAll_85 rfl (lv_at hl 0 rfl) ?_
                  refine va_get (D := gD G) (ci := 1) (v := .int (q.1 8)) (C := RX1) (T := TX1) (N := 10) hx hb hts hiX1 hown hK hP 0 rfl rfl 8 (by decide) k38 (fun _ h9 => h9) rfl dX1_readAll_86 ?_
                  refine topE hd ?_
                  refine lv_if_le (tgt := 101) hx hb dX1_readAll_89 (by decide) (fun c89 => ?_) (fun c89 => ?_)
                  · skip
                    have n89 : d ≤ 0 := (nI_leI (a := d) (b := 0) (by omega) (by omega)).mp c89
                    refine lv_aload_n hx hb dX1_readAll_101 rfl (lv_at hl 0 rfl) ?_
                    refine lv_iconst (v := nI 0) hx hb dX1_readAll_102 (by decide) ?_
                    refine va_put (D := gD G) (ci := 1) (v := .int (nI 0)) (ty := .int) (C := RX1) (T := TX1) (N := 10) hx hb hts hiX1 tyX1 tyX1_ok nmX1 hown hK hP hD hS 0 rfl rfl 1 (by decide) k15 (fun _ h9 => h9) rfl (by decide +kernel) (rfl) (rfl) (Nat.le_of_ble_eq_true rfl) dX1_readAll_103 (fun H locs hP hD hS => ?_)
                    have hP : PP G (rv G h (oI q 1 (nI 0)) pw) H := hP
                    have hD : va_D A (rv G h (oI q 1 (nI 0)) pw) := hD
                    refine lv_aload_n hx hb dX1_readAll_106 rfl (lv_at hl 0 rfl) ?_
                    refine va_get (D := gD G) (ci := 1) (v := .int (q.1 4)) (C := RX1) (T := TX1) (N := 10) hx hb hts hiX1 hown hK hP 0 rfl rfl 4 (by decide) k25 (fun _ h9 => h9) rfl dX1_readAll_107 ?_
                    exact W.iret (v := q.1 4) hx hb hr (fun t ht hW => ⟨⟨q.1 4, (oI q 1 (nI 0), pw), rfl, ⟨_, _, n, mq, rfl, rfl, en, by omega, em, by omega⟩, show PP G (rv G h (oI q 1 (nI 0)) pw) t.heap by rw [ht]; exact hP⟩, hS.F ht⟩) hS.2.2 dX1_readAll_110
                  · skip
                    have n89 : ¬ (d ≤ 0) := fun q9 => c89 ((nI_leI (a := d) (b := 0) (by omega) (by omega)).mpr q9)
                    refine lv_aload_n hx hb dX1_readAll_92 rfl (lv_at hl 0 rfl) ?_
                    refine lv_iconst (v := nI 1) hx hb dX1_readAll_93 (by decide) ?_
                    refine lv_aload_n hx hb dX1_readAll_94 rfl (lv_at hl 0 rfl) ?_
                    refine va_get (D := gD G) (ci := 1) (v := .int (q.1 1)) (C := RX1) (T := TX1) (N := 10) hx hb hts hiX1 hown hK hP 0 rfl rfl 1 (by decide) k15 (fun _ h9 => h9) rfl dX1_readAll_95 ?_
                    refine topE ((hR.1 1 (by decide)).trans hlen) ?_
                    refine cXv (As := [.int (nI 1), .int (nI len)]) (rest := []) (S := oS × oS) (wa := rv G h q pw) (w1 := fun v => rv G h v.1 v.2) ⟨hx, hb, hml, hown, hts⟩ (mt_X1_fail l G h _ q pw (nI 1) (nI len)) (cwV 2 hts gX1_readAll_X1_fail rfl rfl rfl (by decide +kernel) ⟨Nat.le_of_ble_eq_true rfl, Nat.le_of_ble_eq_true rfl⟩) hK hN hP hD hS hA (fun _ => rfl) 0 1 rfl rfl rfl hl.1 rfl (Nat.le_of_ble_eq_true rfl) ⟨Nat.zero_le _, Nat.zero_le _⟩ dX1_readAll_98 (fun u98 H locs hw98 hP hD hS => ?_)
                    obtain ⟨q98, rfl, hR98⟩ := hw98
                    have hP : PP G (rv G h q98 pw) H := hP
                    have hD : va_D A (rv G h q98 pw) := hD
                    refine lv_aload_n hx hb dX1_readAll_101 rfl (lv_at hl 0 rfl) ?_
                    refine lv_iconst (v := nI 0) hx hb dX1_readAll_102 (by decide) ?_
                    refine va_put (D := gD G) (ci := 1) (v := .int (nI 0)) (ty := .int) (C := RX1) (T := TX1) (N := 10) hx hb hts hiX1 tyX1 tyX1_ok nmX1 hown hK hP hD hS 0 rfl rfl 1 (by decide) k15 (fun _ h9 => h9) rfl (by decide +kernel) (rfl) (rfl) (Nat.le_of_ble_eq_true rfl) dX1_readAll_103 (fun H locs hP hD hS => ?_)
                    have hP : PP G (rv G h (oI q98 1 (nI 0)) pw) H := hP
                    have hD : va_D A (rv G h (oI q98 1 (nI 0)) pw) := hD
                    refine lv_aload_n hx hb dX1_readAll_106 rfl (lv_at hl 0 rfl) ?_
                    refine va_get (D := gD G) (ci := 1) (v := .int (q98.1 4)) (C := RX1) (T := TX1) (N := 10) hx hb hts hiX1 hown hK hP 0 rfl rfl 4 (by decide) k25 (fun _ h9 => h9) rfl dX1_readAll_107 ?_
                    exact W.iret (v := q98.1 4) hx hb hr (fun t ht hW => ⟨⟨q98.1 4, (oI q98 1 (nI 0), pw), rfl, ⟨_, _, n, mq, rfl, rfl, en, by omega, em, by omega⟩, show PP G (rv G h (oI q98 1 (nI 0)) pw) t.heap by rw [ht]; exact hP⟩, hS.F ht⟩) hS.2.2 dX1_readAll_110
                · skip
                  have n60 : ¬ (240 ≤ k) := fun q9 => c60 ((nI_leI (a := 240) (b := k) (by omega) (by omega)).mpr q9)
                  refine lv_aload_n hx hb dX1_readAll_63 rfl (lv_at hl 0 rfl) ?_
                  refine cXi (As := []) (rest := []) (S := oS × oS) (wa := rv G h q pw) (w1 := fun v => rv G h v.1 v.2) ⟨hx, hb, hml, hown, hts⟩ (mt_X1_nextSign l G h _ q pw len b ((hR.1 1 (by decide)).trans hlen) (hbq) (by first | assumption | omega) (by first | assumption | omega)) (cwV 0 hts gX1_readAll_X1_nextSign rfl rfl rfl (by decide +kernel) ⟨Nat.le_of_ble_eq_true rfl, Nat.le_of_ble_eq_true rfl⟩) hK hN hP hD hS hA (fun _ => rfl) 0 1 rfl rfl rfl hl.1 rfl (Nat.le_of_ble_eq_true rfl) ⟨Nat.zero_le _, Nat.zero_le _⟩ dX1_readAll_64 (fun r64 u64 H locs hw64 hP hD hS => ?_)
                  rcases hw64 with ⟨b64, rfl, hab64, hbn64, rfl⟩ | ⟨b64, rfl, hab64, hbn64, rfl⟩
                  · skip
                    have hP : PP G (rv G h (oI q 2 (nI b64)) pw) H := hP
                    have hD : va_D A (rv G h (oI q 2 (nI b64)) pw) := hD
                    refine lv_iconst (v := (-1 : Int32)) hx hb dX1_readAll_67 (by decide) ?_
                    refine lv_icmp_eq (tgt := 85) hx hb dX1_readAll_68 (by decide) (fun _ => ?_) (fun c9 => absurd (by decide) c9)
                    refine lv_aload_n hx hb dX1_readAll_85 rfl (lv_at hl 0 rfl) ?_
                    refine va_get (D := gD G) (ci := 1) (v := .int (q.1 8)) (C := RX1) (T := TX1) (N := 10) hx hb hts hiX1 hown hK hP 0 rfl rfl 8 (by decide) k38 (fun _ h9 => h9) rfl dX1_readAll_86 ?_
                    refine topE hd ?_
                    refine lv_if_le (tgt := 101) hx hb dX1_readAll_89 (by decide) (fun c89 => ?_) (fun c89 => ?_)
                    · skip
                      have n89 : d ≤ 0 := (nI_leI (a := d) (b := 0) (by omega) (by omega)).mp c89
                      refine lv_aload_n hx hb dX1_readAll_101 rfl (lv_at hl 0 rfl) ?_
                      refine lv_iconst (v := nI 0) hx hb dX1_readAll_102 (by decide) ?_
                      refine va_put (D := gD G) (ci := 1) (v := .int (nI 0)) (ty := .int) (C := RX1) (T := TX1) (N := 10) hx hb hts hiX1 tyX1 tyX1_ok nmX1 hown hK hP hD hS 0 rfl rfl 1 (by decide) k15 (fun _ h9 => h9) rfl (by decide +kernel) (rfl) (rfl) (Nat.le_of_ble_eq_true rfl) dX1_readAll_103 (fun H locs hP hD hS => ?_)
                      have hP : PP G (rv G h (oI (oI q 2 (nI b64)) 1 (nI 0)) pw) H := hP
                      have hD : va_D A (rv G h (oI (oI q 2 (nI b64)) 1 (nI 0)) pw) := hD
                      refine lv_aload_n hx hb dX1_readAll_106 rfl (lv_at hl 0 rfl) ?_
                      refine va_get (D := gD G) (ci := 1) (v := .int (q.1 4)) (C := RX1) (T := TX1) (N := 10) hx hb hts hiX1 hown hK hP 0 rfl rfl 4 (by decide) k25 (fun _ h9 => h9) rfl dX1_readAll_107 ?_
                      exact W.iret (v := q.1 4) hx hb hr (fun t ht hW => ⟨⟨q.1 4, (oI (oI q 2 (nI b64)) 1 (nI 0), pw), rfl, ⟨_, _, n, mq, rfl, rfl, en, by omega, em, by omega⟩, show PP G (rv G h (oI (oI q 2 (nI b64)) 1 (nI 0)) pw) t.heap by rw [ht]; exact hP⟩, hS.F ht⟩) hS.2.2 dX1_readAll_110
                    · skip
                      have n89 : ¬ (d ≤ 0) := fun q9 => c89 ((nI_leI (a := d) (b := 0) (by omega) (by omega)).mpr q9)
                      refine lv_aload_n hx hb dX1_readAll_92 rfl (lv_at hl 0 rfl) ?_
                      refine lv_iconst (v := nI 1) hx hb dX1_readAll_93 (by decide) ?_
                      refine lv_aload_n hx hb dX1_readAll_94 rfl (lv_at hl 0 rfl) ?_
                      refine va_get (D := gD G) (ci := 1) (v := .int (q.1 1)) (C := RX1) (T := TX1) (N := 10) hx hb hts hiX1 hown hK hP 0 rfl rfl 1 (by decide) k15 (fun _ h9 => h9) rfl dX1_readAll_95 ?_
                      refine topE ((hR.1 1 (by decide)).trans hlen) ?_
                      refine cXv (As := [.int (nI 1), .int (nI len)]) (rest := []) (S := oS × oS) (wa := rv G h (oI q 2 (nI b64)) pw) (w1 := fun v => rv G h v.1 v.2) ⟨hx, hb, hml, hown, hts⟩ (mt_X1_fail l G h _ (oI q 2 (nI b64)) pw (nI 1) (nI len)) (cwV 2 hts gX1_readAll_X1_fail rfl rfl rfl (by decide +kernel) ⟨Nat.le_of_ble_eq_true rfl, Nat.le_of_ble_eq_true rfl⟩) hK hN hP hD hS hA (fun _ => rfl) 0 1 rfl rfl rfl hl.1 rfl (Nat.le_of_ble_eq_true rfl) ⟨Nat.zero_le _, Nat.zero_le _⟩ dX1_readAll_98 (fun u98 H locs hw98 hP hD hS => ?_)
                      obtain ⟨q98, rfl, hR98⟩ := hw98
                      have hP : PP G (rv G h q98 pw) H := hP
                      have hD : va_D A (rv G h q98 pw) := hD
                      refine lv_aload_n hx hb dX1_readAll_101 rfl (lv_at hl 0 rfl) ?_
                      refine lv_iconst (v := nI 0) hx hb dX1_readAll_102 (by decide) ?_
                      refine va_put (D := gD G) (ci := 1) (v := .int (nI 0)) (ty := .int) (C := RX1) (T := TX1) (N := 10) hx hb hts hiX1 tyX1 tyX1_ok nmX1 hown hK hP hD hS 0 rfl rfl 1 (by decide) k15 (fun _ h9 => h9) rfl (by decide +kernel) (rfl) (rfl) (Nat.le_of_ble_eq_true rfl) dX1_readAll_103 (fun H locs hP hD hS => ?_)
                      have hP : PP G (rv G h (oI q98 1 (nI 0)) pw) H := hP
                      have hD : va_D A (rv G h (oI q98 1 (nI 0)) pw) := hD
                      refine lv_aload_n hx hb dX1_readAll_106 rfl (lv_at hl 0 rfl) ?_
                      refine va_get (D := gD G) (ci := 1) (v := .int (q98.1 4)) (C := RX1) (T := TX1) (N := 10) hx hb hts hiX1 hown hK hP 0 rfl rfl 4 (by decide) k25 (fun _ h9 => h9) rfl dX1_readAll_107 ?_
                      exact W.iret (v := q98.1 4) hx hb hr (fun t ht hW => ⟨⟨q98.1 4, (oI q98 1 (nI 0), pw), rfl, ⟨_, _, n, mq, rfl, rfl, en, by omega, em, by omega⟩, show PP G (rv G h (oI q98 1 (nI 0)) pw) t.heap by rw [ht]; exact hP⟩, hS.F ht⟩) hS.2.2 dX1_readAll_110
                  · skip
                    have hP : PP G (rv G h (oI q 2 (nI b64)) pw) H := hP
                    have hD : va_D A (rv G h (oI q 2 (nI b64)) pw) := hD
                    refine lv_iconst (v := (-1 : Int32)) hx hb dX1_readAll_67 (by decide) ?_
                    refine lv_icmp_eq (tgt := 85) hx hb dX1_readAll_68 (by decide) (fun c68 => ?_) (fun c68 => ?_)
                    · skip
                      refine lv_aload_n hx hb dX1_readAll_85 rfl (lv_at hl 0 rfl) ?_
                      refine va_get (D := gD G) (ci := 1) (v := .int (q.1 8)) (C := RX1) (T := TX1) (N := 10) hx hb hts hiX1 hown hK hP 0 rfl rfl 8 (by decide) k38 (fun _ h9 => h9) rfl dX1_readAll_86 ?_
                      refine topE hd ?_
                      refine lv_if_le (tgt := 101) hx hb dX1_readAll_89 (by decide) (fun c89 => ?_) (fun c89 => ?_)
                      · skip
                        have n89 : d ≤ 0 := (nI_leI (a := d) (b := 0) (by omega) (by omega)).mp c89
                        refine lv_aload_n hx hb dX1_readAll_101 rfl (lv_at hl 0 rfl) ?_
                        refine lv_iconst (v := nI 0) hx hb dX1_readAll_102 (by decide) ?_
                        refine va_put (D := gD G) (ci := 1) (v := .int (nI 0)) (ty := .int) (C := RX1) (T := TX1) (N := 10) hx hb hts hiX1 tyX1 tyX1_ok nmX1 hown hK hP hD hS 0 rfl rfl 1 (by decide) k15 (fun _ h9 => h9) rfl (by decide +kernel) (rfl) (rfl) (Nat.le_of_ble_eq_true rfl) dX1_readAll_103 (fun H locs hP hD hS => ?_)
                        have hP : PP G (rv G h (oI (oI q 2 (nI b64)) 1 (nI 0)) pw) H := hP
                        have hD : va_D A (rv G h (oI (oI q 2 (nI b64)) 1 (nI 0)) pw) := hD
                        refine lv_aload_n hx hb dX1_readAll_106 rfl (lv_at hl 0 rfl) ?_
                        refine va_get (D := gD G) (ci := 1) (v := .int (q.1 4)) (C := RX1) (T := TX1) (N := 10) hx hb hts hiX1 hown hK hP 0 rfl rfl 4 (by decide) k25 (fun _ h9 => h9) rfl dX1_readAll_107 ?_
                        exact W.iret (v := q.1 4) hx hb hr (fun t ht hW => ⟨⟨q.1 4, (oI (oI q 2 (nI b64)) 1 (nI 0), pw), rfl, ⟨_, _, n, mq, rfl, rfl, en, by omega, em, by omega⟩, show PP G (rv G h (oI (oI q 2 (nI b64)) 1 (nI 0)) pw) t.heap by rw [ht]; exact hP⟩, hS.F ht⟩) hS.2.2 dX1_readAll_110
                      · skip
                        have n89 : ¬ (d ≤ 0) := fun q9 => c89 ((nI_leI (a := d) (b := 0) (by omega) (by omega)).mpr q9)
                        refine lv_aload_n hx hb dX1_readAll_92 rfl (lv_at hl 0 rfl) ?_
                        refine lv_iconst (v := nI 1) hx hb dX1_readAll_93 (by decide) ?_
                        refine lv_aload_n hx hb dX1_readAll_94 rfl (lv_at hl 0 rfl) ?_
                        refine va_get (D := gD G) (ci := 1) (v := .int (q.1 1)) (C := RX1) (T := TX1) (N := 10) hx hb hts hiX1 hown hK hP 0 rfl rfl 1 (by decide) k15 (fun _ h9 => h9) rfl dX1_readAll_95 ?_
                        refine topE ((hR.1 1 (by decide)).trans hlen) ?_
                        refine cXv (As := [.int (nI 1), .int (nI len)]) (rest := []) (S := oS × oS) (wa := rv G h (oI q 2 (nI b64)) pw) (w1 := fun v => rv G h v.1 v.2) ⟨hx, hb, hml, hown, hts⟩ (mt_X1_fail l G h _ (oI q 2 (nI b64)) pw (nI 1) (nI len)) (cwV 2 hts gX1_readAll_X1_fail rfl rfl rfl (by decide +kernel) ⟨Nat.le_of_ble_eq_true rfl, Nat.le_of_ble_eq_true rfl⟩) hK hN hP hD hS hA (fun _ => rfl) 0 1 rfl rfl rfl hl.1 rfl (Nat.le_of_ble_eq_true rfl) ⟨Nat.zero_le _, Nat.zero_le _⟩ dX1_readAll_98 (fun u98 H locs hw98 hP hD hS => ?_)
                        obtain ⟨q98, rfl, hR98⟩ := hw98
                        have hP : PP G (rv G h q98 pw) H := hP
                        have hD : va_D A (rv G h q98 pw) := hD
                        refine lv_aload_n hx hb dX1_readAll_101 rfl (lv_at hl 0 rfl) ?_
                        refine lv_iconst (v := nI 0) hx hb dX1_readAll_102 (by decide) ?_
                        refine va_put (D := gD G) (ci := 1) (v := .int (nI 0)) (ty := .int) (C := RX1) (T := TX1) (N := 10) hx hb hts hiX1 tyX1 tyX1_ok nmX1 hown hK hP hD hS 0 rfl rfl 1 (by decide) k15 (fun _ h9 => h9) rfl (by decide +kernel) (rfl) (rfl) (Nat.le_of_ble_eq_true rfl) dX1_readAll_103 (fun H locs hP hD hS => ?_)
                        have hP : PP G (rv G h (oI q98 1 (nI 0)) pw) H := hP
                        have hD : va_D A (rv G h (oI q98 1 (nI 0)) pw) := hD
                        refine lv_aload_n hx hb dX1_readAll_106 rfl (lv_at hl 0 rfl) ?_
                        refine va_get (D := gD G) (ci := 1) (v := .int (q98.1 4)) (C := RX1) (T := TX1) (N := 10) hx hb hts hiX1 hown hK hP 0 rfl rfl 4 (by decide) k25 (fun _ h9 => h9) rfl dX1_readAll_107 ?_
                        exact W.iret (v := q98.1 4) hx hb hr (fun t ht hW => ⟨⟨q98.1 4, (oI q98 1 (nI 0), pw), rfl, ⟨_, _, n, mq, rfl, rfl, en, by omega, em, by omega⟩, show PP G (rv G h (oI q98 1 (nI 0)) pw) t.heap by rw [ht]; exact hP⟩, hS.F ht⟩) hS.2.2 dX1_readAll_110
                    · skip
                      refine lv_aload_n hx hb dX1_readAll_71 rfl (lv_at hl 0 rfl) ?_
                      refine lv_aload_n hx hb dX1_readAll_72 rfl (lv_at hl 0 rfl) ?_
                      refine cXi (As := []) (rest := [.ref (h 0)]) (S := oS × oS) (wa := rv G h (oI q 2 (nI b64)) pw) (w1 := fun v => rv G h v.1 v.2) ⟨hx, hb, hml, hown, hts⟩ (mt_X1_nextSign l G h _ (oI q 2 (nI b64)) pw len b64 ((hR.1 1 (by decide)).trans hlen) (rfl) (by first | assumption | omega) (by first | assumption | omega)) (cwV 0 hts gX1_readAll_X1_nextSign rfl rfl rfl (by decide +kernel) ⟨Nat.le_of_ble_eq_true rfl, Nat.le_of_ble_eq_true rfl⟩) hK hN hP hD hS hA (fun _ => rfl) 0 1 rfl rfl rfl hl.1 rfl (Nat.le_of_ble_eq_true rfl) ⟨Nat.zero_le _, Nat.zero_le _⟩ dX1_readAll_73 (fun r73 u73 H locs hw73 hP hD hS => ?_)
                      rcases hw73 with ⟨b73, rfl, hab73, hbn73, rfl⟩ | ⟨b73, rfl, hab73, hbn73, rfl⟩
                      · skip
                        have hP : PP G (rv G h (oI (oI q 2 (nI b64)) 2 (nI b73)) pw) H := hP
                        have hD : va_D A (rv G h (oI (oI q 2 (nI b64)) 2 (nI b73)) pw) := hD
                        refine cXv (As := [.int (-1 : Int32)]) (rest := []) (S := oS × oS) (wa := rv G h (oI (oI q 2 (nI b64)) 2 (nI b73)) pw) (w1 := fun v => rv G h v.1 v.2) ⟨hx, hb, hml, hown, hts⟩ (mt_X1_readItem l G h _ (oI (oI q 2 (nI b64)) 2 (nI b73)) pw len b73 d n mq (-1 : Int32) ((hR.1 1 (by decide)).trans hlen) (rfl) (hd) (en) (em) (by first | assumption | omega) (by first | assumption | omega) (by first | assumption | omega) (by first | assumption | omega) (by first | assumption | omega) (by first | exact (fun q => absurd rfl q) | exact (fun _ => by omega))) (cwV 1 hts gX1_readAll_X1_readItem rfl rfl rfl (by decide +kernel) ⟨Nat.le_of_ble_eq_true rfl, Nat.le_of_ble_eq_true rfl⟩) hK hN hP hD hS hA (fun _ => rfl) 0 1 rfl rfl rfl hl.1 rfl (Nat.le_of_ble_eq_true rfl) ⟨Nat.zero_le _, Nat.zero_le _⟩ dX1_readAll_76 (fun u76 H locs hw76 hP hD hS => ?_)
                        obtain ⟨q76, p76, b76, d76, n76, rfl, hR76, hb76, hbn76, hd76, hdn76, hV76, en76, hn76⟩ := hw76
                        have hP : PP G (rv G h q76 p76) H := hP
                        have hD : va_D A (rv G h q76 p76) := hD
                        refine lv_iinc (v := nI (k + 1)) (lv' := [(1, .int (nI (k + 1))), (0, .ref (h 0))]) hx hb dX1_readAll_79 hl (k := 1) rfl (nI_1 k) (by decide) rfl (fun ls hl => ?_)
                        refine lv_goto (tgt := 56) hx hb dX1_readAll_82 (by decide) ?_
                        exact ih56 (k + 1) q76 p76 b76 n d76 n76 (by first | assumption | omega) (by repeat (first | exact rel.refl _ | exact rel.mono (by assumption) (by decide) (by decide) | refine rel.I (by decide) ?_ | refine rel.A (by decide) ?_ | refine rel.trans ?_ (rel.mono (by assumption) (by decide) (by decide)))) (hb76) (by first | assumption | omega) (hd76) (by first | assumption | omega) ((hV76.1 0 (by decide)).trans (en)) (by first | assumption | omega) (en76) (by first | assumption | omega) (by omega) _ _ ls hP hD hS (lv_sub hl [1, 0] rfl)
                      · skip
                        have hP : PP G (rv G h (oI (oI q 2 (nI b64)) 2 (nI b73)) pw) H := hP
                        have hD : va_D A (rv G h (oI (oI q 2 (nI b64)) 2 (nI b73)) pw) := hD
                        refine cXv (As := [.int ((oI q 2 (nI b64)).2 0 b73)]) (rest := []) (S := oS × oS) (wa := rv G h (oI (oI q 2 (nI b64)) 2 (nI b73)) pw) (w1 := fun v => rv G h v.1 v.2) ⟨hx, hb, hml, hown, hts⟩ (mt_X1_readItem l G h _ (oI (oI q 2 (nI b64)) 2 (nI b73)) pw len b73 d n mq ((oI q 2 (nI b64)).2 0 b73) ((hR.1 1 (by decide)).trans hlen) (rfl) (hd) (en) (em) (by first | assumption | omega) (by first | assumption | omega) (by first | assumption | omega) (by first | assumption | omega) (by first | assumption | omega) (by first | exact (fun q => absurd rfl q) | exact (fun _ => by omega))) (cwV 1 hts gX1_readAll_X1_readItem rfl rfl rfl (by decide +kernel) ⟨Nat.le_of_ble_eq_true rfl, Nat.le_of_ble_eq_true rfl⟩) hK hN hP hD hS hA (fun _ => rfl) 0 1 rfl rfl rfl hl.1 rfl (Nat.le_of_ble_eq_true rfl) ⟨Nat.zero_le _, Nat.zero_le _⟩ dX1_readAll_76 (fun u76 H locs hw76 hP hD hS => ?_)
                        obtain ⟨q76, p76, b76, d76, n76, rfl, hR76, hb76, hbn76, hd76, hdn76, hV76, en76, hn76⟩ := hw76
                        have hP : PP G (rv G h q76 p76) H := hP
                        have hD : va_D A (rv G h q76 p76) := hD
                        refine lv_iinc (v := nI (k + 1)) (lv' := [(1, .int (nI (k + 1))), (0, .ref (h 0))]) hx hb dX1_readAll_79 hl (k := 1) rfl (nI_1 k) (by decide) rfl (fun ls hl => ?_)
                        refine lv_goto (tgt := 56) hx hb dX1_readAll_82 (by decide) ?_
                        exact ih56 (k + 1) q76 p76 b76 n d76 n76 (by first | assumption | omega) (by repeat (first | exact rel.refl _ | exact rel.mono (by assumption) (by decide) (by decide) | refine rel.I (by decide) ?_ | refine rel.A (by decide) ?_ | refine rel.trans ?_ (rel.mono (by assumption) (by decide) (by decide)))) (hb76) (by first | assumption | omega) (hd76) (by first | assumption | omega) ((hV76.1 0 (by decide)).trans (en)) (by first | assumption | omega) (en76) (by first | assumption | omega) (by omega) _ _ ls hP hD hS (lv_sub hl [1, 0] rfl)
            exact LP56 (240 - 0 + 1) 0 (oI q 2 (nI b36)) pw b36 n 0 0 (by first | assumption | omega) (by repeat (first | exact rel.refl _ | exact rel.mono (by assumption) (by decide) (by decide) | refine rel.I (by decide) ?_ | refine rel.A (by decide) ?_ | refine rel.trans ?_ (rel.mono (by assumption) (by decide) (by decide)))) (rfl) (by first | assumption | omega) (hd) (by first | assumption | omega) (en) (by first | assumption | omega) (em) (by first | assumption | omega) (Nat.lt_succ_self _) _ _ ls hP hD hS (lv_sub hl [1, 0] rfl)
          · skip
            refine lv_aload_n hx hb dX1_readAll_44 rfl (lv_at hl 0 rfl) ?_
            refine cXv (As := []) (rest := []) (S := oS × oS) (wa := rv G h (oI q 2 (nI b36)) pw) (w1 := fun v => rv G h v.1 v.2) ⟨hx, hb, hml, hown, hts⟩ (mt_X1_readOneVersion l G h _ (oI q 2 (nI b36)) pw len b36 n ((hR.1 1 (by decide)).trans hlen) (rfl) (en) (by first | assumption | omega) (by first | assumption | omega) (by first | assumption | omega)) (cwV 0 hts gX1_readAll_X1_readOneVersion rfl rfl rfl (by decide +kernel) ⟨Nat.le_of_ble_eq_true rfl, Nat.le_of_ble_eq_true rfl⟩) hK hN hP hD hS hA (fun _ => rfl) 0 1 rfl rfl rfl hl.1 rfl (Nat.le_of_ble_eq_true rfl) ⟨Nat.zero_le _, Nat.zero_le _⟩ dX1_readAll_45 (fun u45 H locs hw45 hP hD hS => ?_)
            obtain ⟨q45, p45, b45, n45, rfl, hR45, hb45, hbn45, hV45, en45, hn45⟩ := hw45
            have hP : PP G (rv G h q45 p45) H := hP
            have hD : va_D A (rv G h q45 p45) := hD
            refine lv_iinc (v := nI (k + 1)) (lv' := [(1, .int (nI (k + 1))), (0, .ref (h 0))]) hx hb dX1_readAll_48 hl (k := 1) rfl (nI_1 k) (by decide) rfl (fun ls hl => ?_)
            refine lv_goto (tgt := 29) hx hb dX1_readAll_51 (by decide) ?_
            exact ih29 (k + 1) q45 p45 b45 n45 (by first | assumption | omega) (by repeat (first | exact rel.refl _ | exact rel.mono (by assumption) (by decide) (by decide) | refine rel.I (by decide) ?_ | refine rel.A (by decide) ?_ | refine rel.trans ?_ (rel.mono (by assumption) (by decide) (by decide)))) (hb45) (by first | assumption | omega) ((hR45.1 8 (by decide)).trans (hd)) (en45) (by first | assumption | omega) ((hV45.1 5 (by decide)).trans (em)) (by omega) _ _ ls hP hD hS (lv_sub hl [1, 0] rfl)
  exact LP29 (25 - 0 + 1) 0 (oI (oI (oI (oI rd 2 (nI 0)) 8 (nI 0)) 4 (nI 0)) 5 (-1 : Int32)) (oI (oI w 0 (nI 0)) 5 (nI 0)) 0 0 (by first | assumption | omega) (by repeat (first | exact rel.refl _ | exact rel.mono (by assumption) (by decide) (by decide) | refine rel.I (by decide) ?_ | refine rel.A (by decide) ?_ | refine rel.trans ?_ (rel.mono (by assumption) (by decide) (by decide)))) (rfl) (by first | assumption | omega) (rfl) (rfl) (by first | assumption | omega) (rfl) (Nat.lt_succ_self _) _ _ ls hP hD hS (lv_sub hl [1, 0] rfl)
set_option maxHeartbeats 1000000 in
set_option maxRecDepth 100000 in
theorem mt_X1_addLetter (l : Launch) (G : gG) (h : Nat → Nat) (sz : Nat) (rd : oS) (w : oS) (len : Nat) (x : Int32) (hlen : rd.1 1 = nI len) (hl240 : len ≤ 240) : Met l yX1_addLetter wsX1_addLetter ({ frames := 0, cells := 0, slots := 0, locals := 0 }) (preW G (rv G h rd w) sz [.ref (h 0), .int x]) (va_Qi (fun (r : Int32) (v : oS × oS) => (len = 240 ∧ v = (rd, w) ∧ r = 0) ∨ (len < 240 ∧ ∃ q, v = (q, w) ∧ rel [1] [0] rd q ∧ q.1 1 = nI (len + 1) ∧ r = 1)) (fun v t => PP G (rv G h v.1 v.2) t.heap) (va_A (rv G h rd w) sz)) 0 0 (va_A (rv G h rd w) sz) := by
  refine Met.ofW (cc := cX1_addLetter) (maxL := 2) (ret := (some .boolean)) (by decide) rfl ?_
  intro p e s m args below meth c s₁ B hml hv
  obtain ⟨ha, hsz, hP, hK, hN, hD0⟩ := hv
  subst ha
  have hx := B.exec
  have hb := B.bytes
  have hr := B.returns
  have hts := atoms_spec (ws := wsX1_addLetter) B.pre
  have hown : s.vm.findClass RX1 = some m.cls := findClass_of_methodNamed B.named
  have hlocks := B.notSynchronized
  subst hsz
  have hD := hD0.self (sz := s.heap.size)
  generalize hAe : va_A (rv G h rd w) s.heap.size = A at hD ⊢
  have hA : ∀ q : Nat, s.heap.size ≤ q → A q := fun q h => by rw [← hAe]; exact Or.inr h
  clear hAe hD0
  have hS : va_S A s.heap s.heap [] := va_S.rf
  have hiX1 : ∀ w ∈ wsX10, w ∈ wsX1_addLetter := by decide +kernel
  have k15 := hts (.fieldLink RX1 15 "WovenHistory$Reader" "length" "I") (List.mem_of_getElem? (i := 1) rfl)
  have k9 := hts (.fieldLink RX1 9 "WovenHistory$Reader" "letters" "[I") (List.mem_of_getElem? (i := 2) rfl)
  have hl := lv_entry ([.ref (h 0), .int x]) (n := 2) (Nat.le_of_ble_eq_true rfl)
  rw [lg_entry_eq]
  generalize (lg_sl ([.ref (h 0), .int x]) ++ List.replicate (2 - (lg_sl ([.ref (h 0), .int x])).length) Slot.unset).toArray = ls at hl ⊢
  have hl : lv_has ls 2 [(0, .ref (h 0)), (1, .int x)] := hl
  refine lv_aload_n hx hb dX1_addLetter_0 rfl (lv_at hl 0 rfl) ?_
  refine va_get (D := gD G) (ci := 1) (v := .int (rd.1 1)) (C := RX1) (T := TX1) (N := 10) hx hb hts hiX1 hown hK hP 0 rfl rfl 1 (by decide) k15 (fun _ h9 => h9) rfl dX1_addLetter_1 ?_
  refine topE hlen ?_
  refine lv_sipush (v := nI 240) hx hb dX1_addLetter_4 (by decide) ?_
  refine lv_icmp_lt (tgt := 12) hx hb dX1_addLetter_7 (by decide) (fun c7 => ?_) (fun c7 => ?_)
  · skip
    have n7 : len < 240 := (nI_ltI (a := len) (b := 240) (by omega) (by omega)).mp c7
    refine lv_aload_n hx hb dX1_addLetter_12 rfl (lv_at hl 0 rfl) ?_
    refine va_get (D := gD G) (ci := 1) (v := .ref (h 1)) (C := RX1) (T := TX1) (N := 10) hx hb hts hiX1 hown hK hP 0 rfl rfl 0 (by decide) k9 (fun _ h9 => h9) rfl dX1_addLetter_13 ?_
    refine lv_aload_n hx hb dX1_addLetter_16 rfl (lv_at hl 0 rfl) ?_
    refine va_get (D := gD G) (ci := 1) (v := .int (rd.1 1)) (C := RX1) (T := TX1) (N := 10) hx hb hts hiX1 hown hK hP 0 rfl rfl 1 (by decide) k15 (fun _ h9 => h9) rfl dX1_addLetter_17 ?_
    refine topE hlen ?_
    refine lv_iload_n hx hb dX1_addLetter_20 rfl (lv_at hl 1 rfl) ?_
    refine iastN (f := rd.2 0) (n := 240) (k := len) hx hb hK hP hD hS 1 rfl rfl (by omega) dX1_addLetter_21 (fun H locs hP hD hS => ?_)
    have hP : PP G (rv G h (oA rd 0 (upd (rd.2 0) len x)) w) H := hP
    have hD : va_D A (rv G h (oA rd 0 (upd (rd.2 0) len x)) w) := hD
    refine lv_aload_n hx hb dX1_addLetter_22 rfl (lv_at hl 0 rfl) ?_
    refine lv_dup hx hb dX1_addLetter_23 rfl ?_
    refine va_get (D := gD G) (ci := 1) (v := .int (rd.1 1)) (C := RX1) (T := TX1) (N := 10) hx hb hts hiX1 hown hK hP 0 rfl rfl 1 (by decide) k15 (fun _ h9 => h9) rfl dX1_addLetter_24 ?_
    refine topE hlen ?_
    refine lv_iconst (v := nI 1) hx hb dX1_addLetter_27 (by decide) ?_
    refine lv_iadd hx hb dX1_addLetter_28 ?_
    refine topE (y := nI (len + 1)) (nI_add len 1) ?_
    refine va_put (D := gD G) (ci := 1) (v := .int (nI (len + 1))) (ty := .int) (C := RX1) (T := TX1) (N := 10) hx hb hts hiX1 tyX1 tyX1_ok nmX1 hown hK hP hD hS 0 rfl rfl 1 (by decide) k15 (fun _ h9 => h9) rfl (by decide +kernel) (rfl) (rfl) (Nat.le_of_ble_eq_true rfl) dX1_addLetter_29 (fun H locs hP hD hS => ?_)
    have hP : PP G (rv G h (oI (oA rd 0 (upd (rd.2 0) len x)) 1 (nI (len + 1))) w) H := hP
    have hD : va_D A (rv G h (oI (oA rd 0 (upd (rd.2 0) len x)) 1 (nI (len + 1))) w) := hD
    refine lv_iconst (v := nI 1) hx hb dX1_addLetter_32 (by decide) ?_
    exact W.zret (v := nI 1) hx hb hr (by decide) (fun t ht hW => ⟨⟨nI 1, (oI (oA rd 0 (upd (rd.2 0) len x)) 1 (nI (len + 1)), w), rfl, Or.inr ⟨by omega, _, rfl, by repeat (first | exact rel.refl _ | exact rel.mono (by assumption) (by decide) (by decide) | refine rel.I (by decide) ?_ | refine rel.A (by decide) ?_ | refine rel.trans ?_ (rel.mono (by assumption) (by decide) (by decide))), rfl, rfl⟩, show PP G (rv G h (oI (oA rd 0 (upd (rd.2 0) len x)) 1 (nI (len + 1))) w) t.heap by rw [ht]; exact hP⟩, hS.F ht⟩) hS.2.2 dX1_addLetter_33
  · skip
    have n7 : ¬ (len < 240) := fun q9 => c7 ((nI_ltI (a := len) (b := 240) (by omega) (by omega)).mpr q9)
    refine lv_iconst (v := nI 0) hx hb dX1_addLetter_10 (by decide) ?_
    exact W.zret (v := nI 0) hx hb hr (by decide) (fun t ht hW => ⟨⟨nI 0, (rd, w), rfl, Or.inl ⟨by omega, rfl, rfl⟩, show PP G (rv G h rd w) t.heap by rw [ht]; exact hP⟩, hS.F ht⟩) hS.2.2 dX1_addLetter_11
