set_option maxHeartbeats 1000000 in
set_option maxRecDepth 100000 in
theorem mt_copyRow (l : Launch) (G : gG) (sz a b n1 n2 : Nat) (f g : Nat → Int32) (q : Nat) (hq1 : q ≤ n1) (hq2 : q ≤ n2) (hn1 : Nat.ble (n1 + 1) (2 ^ 31) = true) (hn2 : Nat.ble (n2 + 1) (2 ^ 31) = true) : Met l yX5_copyRow wsX5_copyRow ({ frames := 0, cells := 0, slots := 0, locals := 0 }) (preW G (aw G a b n1 n2 f g) sz [.ref a, .ref b, .int (nI q)]) (va_Qv (fun (v : Unit) => True) (fun v t => PP G (aw G a b n1 n2 f (cpr f g q)) t.heap) (va_A (aw G a b n1 n2 f g) sz)) 0 0 (va_A (aw G a b n1 n2 f g) sz) := by
  refine Met.ofW (cc := cX5_copyRow) (maxL := 4) (ret := none) (by decide) rfl ?_
  intro p e s m args below meth c s₁ B hml hv
  obtain ⟨ha, hsz, hP, hK, hN, hD0⟩ := hv
  subst ha
  have hx := B.exec
  have hb := B.bytes
  have hr := B.returns
  have hlocks := B.notSynchronized
  have hb1 := Nat.le_of_ble_eq_true hn1
  have hb2 := Nat.le_of_ble_eq_true hn2
  subst hsz
  have hD := hD0.self (sz := s.heap.size)
  generalize hAe : va_A (aw G a b n1 n2 f g) s.heap.size = A at hD ⊢
  clear hAe hD0
  have hS : va_S A s.heap s.heap [] := va_S.rf
  have hl := lv_entry ([.ref a, .ref b, .int (nI q)]) (n := 4) (Nat.le_of_ble_eq_true rfl)
  rw [lg_entry_eq]
  generalize (lg_sl ([.ref a, .ref b, .int (nI q)]) ++ List.replicate (4 - (lg_sl ([.ref a, .ref b, .int (nI q)])).length) Slot.unset).toArray = ls at hl ⊢
  have hl : lv_has ls 4 [(0, .ref a), (1, .ref b), (2, .int (nI q))] := hl
  refine lv_iconst (v := nI 0) hx hb dX5_copyRow_0 (by decide) ?_
  refine lv_istore_n (lv' := [(3, .int (nI 0)), (0, .ref a), (1, .ref b), (2, .int (nI q))]) hx hb dX5_copyRow_1 rfl hl (by decide) rfl (fun ls hl => ?_)
  have LP : ∀ (n : Nat) (k : Nat) (hk : k ≤ q), q - k < n → ∀ (H : Heap) (locs : List Loc) (ls : Array Slot), PP G (aw G a b n1 n2 f (cpr f g k)) H → va_D A (aw G a b n1 n2 f (cpr f g k)) → va_S A s.heap H locs → lv_has ls 4 [(3, .int (nI k)), (0, .ref a), (1, .ref b), (2, .int (nI q))] → W p l e (headSpec wsX5_copyRow ({ frames := 0, cells := 0, slots := 0, locals := 0 })).room s m ([.ref a, .ref b, .int (nI q)] : List Value).toArray below meth c H locs 0 0 (MQ below (va_Qv (fun (v : Unit) => True) (fun v t => PP G (aw G a b n1 n2 f (cpr f g q)) t.heap) A) ([.ref a, .ref b, .int (nI q)] : List Value).toArray s 0 0 A) (F0 m 2 ls []) := by
    intro n
    induction n with
    | zero => intro k hk hmu; exact absurd hmu (Nat.not_lt_zero _)
    | succ n ih =>
      intro k hk hmu H locs ls hP hD hS hl
      refine lv_iload_n hx hb dX5_copyRow_2 rfl (lv_at hl 0 rfl) ?_
      refine lv_iload_n hx hb dX5_copyRow_3 rfl (lv_at hl 3 rfl) ?_
      refine lv_icmp_ge (tgt := 19) hx hb dX5_copyRow_4 (by decide) (fun c4 => ?_) (fun c4 => ?_)
      · have e : k = q := by have := (nI_leI (a := q) (b := k) (by omega) (by omega)).mp c4; omega
        subst e
        exact W.vret hx hb hr (fun t ht hW => ⟨⟨(), rfl, trivial, show PP G _ t.heap by rw [ht]; exact hP⟩, hS.F ht⟩) hS.2.2 dX5_copyRow_19
      · have n4 : ¬ q ≤ k := fun z => c4 ((nI_leI (a := q) (b := k) (by omega) (by omega)).mpr z)
        refine lv_aload_n hx hb dX5_copyRow_7 rfl (lv_at hl 2 rfl) ?_
        refine lv_iload_n hx hb dX5_copyRow_8 rfl (lv_at hl 0 rfl) ?_
        refine lv_aload_n hx hb dX5_copyRow_9 rfl (lv_at hl 1 rfl) ?_
        refine lv_iload_n hx hb dX5_copyRow_10 rfl (lv_at hl 0 rfl) ?_
        refine ialdN (f := f) (n := n1) (k := k) hx hb hK hP 0 rfl hn1 (by omega) dX5_copyRow_11 ?_
        refine iastN (f := cpr f g k) (n := n2) (k := k) hx hb hK hP hD hS 1 rfl hn2 (by omega) dX5_copyRow_12 (fun H locs hP hD hS => ?_)
        rw [cpr_s] at hP hD
        refine lv_iinc (v := nI (k + 1)) (lv' := [(3, .int (nI (k + 1))), (0, .ref a), (1, .ref b), (2, .int (nI q))]) hx hb dX5_copyRow_13 hl (k := 0) rfl (nI_1 k) (by decide) rfl (fun ls hl => ?_)
        refine lv_goto (tgt := 2) hx hb dX5_copyRow_16 (by decide) ?_
        exact ih (k + 1) (by omega) (by omega) H locs ls hP hD hS hl
  exact LP (q + 1) 0 (Nat.zero_le _) (by omega) _ _ ls (by rw [cpr_0]; exact hP) (by rw [cpr_0]; exact hD) hS hl

set_option maxHeartbeats 1000000 in
set_option maxRecDepth 100000 in
theorem mt_X5_openLines (l : Launch) (G : gG) (h : Nat → Nat) (sz : Nat) (u : oS) (lt : Int64) (sj : Nat → Int64) (g0 : Nat → Int32) (nv : Nat) (nl : Nat) (hnv : u.1 0 = nI nv) (hnl : u.1 4 = nI nl) (hnv24 : nv ≤ 24) (hnl120 : nl ≤ 120) (hpar : parOK (u.2 1) (nv + 1)) : Met l yX5_openLines wsX5_openLines ({ frames := 3, cells := 0, slots := 0, locals := 66 }) (preW G (mw G h (oA u 26 g0) lt sj) sz [.ref (h 0)]) (va_Qi (fun (r : Int32) (v : oS × Int64 × (Nat → Int64)) => ∃ g, v = (oA u 26 g, lt, sj) ∧ r = nI (cnt (sdb (u.2 6) (u.2 7) (chV (u.2 1) (u.2 2) (u.2 3) (nI nv))) nl)) (fun v t => PP G (mw G h v.1 v.2.1 v.2.2) t.heap) (va_A (mw G h (oA u 26 g0) lt sj) sz)) 0 0 (va_A (mw G h (oA u 26 g0) lt sj) sz) := by
  refine Met.ofW (cc := cX5_openLines) (maxL := 1) (ret := (some .int)) (by decide) rfl ?_
  intro p e s m args below meth c s₁ B hml hv
  obtain ⟨ha, hsz, hP, hK, hN, hD0⟩ := hv
  subst ha
  have hx := B.exec
  have hb := B.bytes
  have hr := B.returns
  have hts := atoms_spec (ws := wsX5_openLines) B.pre
  have hown : s.vm.findClass RX5 = some m.cls := findClass_of_methodNamed B.named
  have hlocks := B.notSynchronized
  subst hsz
  have hD := hD0.self (sz := s.heap.size)
  generalize hAe : va_A (mw G h (oA u 26 g0) lt sj) s.heap.size = A at hD ⊢
  have hA : ∀ q : Nat, s.heap.size ≤ q → A q := fun q h => by rw [← hAe]; exact Or.inr h
  clear hAe hD0
  have hS : va_S A s.heap s.heap [] := va_S.rf
  have hiX5 : ∀ w ∈ wsX50, w ∈ wsX5_openLines := by decide +kernel
  have k91 := hts (.fieldLink RX5 91 "WovenHistoryModel" "versions" "I") (List.mem_of_getElem? (i := 1) rfl)
  have hl := lv_entry ([.ref (h 0)]) (n := 1) (Nat.le_of_ble_eq_true rfl)
  rw [lg_entry_eq]
  generalize (lg_sl ([.ref (h 0)]) ++ List.replicate (1 - (lg_sl ([.ref (h 0)])).length) Slot.unset).toArray = ls at hl ⊢
  have hl : lv_has ls 1 [(0, .ref (h 0))] := hl
  refine lv_aload_n hx hb dX5_openLines_0 rfl (lv_at hl 0 rfl) ?_
  refine lv_aload_n hx hb dX5_openLines_1 rfl (lv_at hl 0 rfl) ?_
  refine lv_aload_n hx hb dX5_openLines_2 rfl (lv_at hl 0 rfl) ?_
  refine va_get (D := gD G) (ci := 5) (v := .int (u.1 0)) (C := RX5) (T := TX5) (N := 38) hx hb hts hiX5 hown hK hP 0 rfl rfl 0 (by decide) k91 (fun _ h9 => h9) rfl dX5_openLines_3 ?_
  refine topE hnv ?_
  refine cXi (As := [.int (nI nv)]) (rest := [.ref (h 0)]) (S := oS × Int64 × (Nat → Int64)) (wa := mw G h (oA u 26 g0) lt sj) (w1 := fun v => mw G h v.1 v.2.1 v.2.2) ⟨hx, hb, hml, hown, hts⟩ (mt_X5_changesOf l G h _ u lt sj g0 nv (by first | assumption | omega) (by first | assumption | omega)) (cwV 1 hts gX5_openLines_X5_changesOf rfl rfl rfl (by decide +kernel) ⟨Nat.le_of_ble_eq_true rfl, Nat.le_of_ble_eq_true rfl⟩) hK hN hP hD hS hA (fun _ => rfl) 0 5 rfl rfl rfl hl.1 rfl (Nat.le_of_ble_eq_true rfl) ⟨Nat.zero_le _, Nat.zero_le _⟩ dX5_openLines_6 (fun r6 u6 H locs hw6 hP hD hS => ?_)
  obtain ⟨g6, rfl, rfl⟩ := hw6
  have hP : PP G (mw G h (oA u 26 g6) lt sj) H := hP
  have hD : va_D A (mw G h (oA u 26 g6) lt sj) := hD
  refine cRi (w := mw G h (oA u 26 g6) lt sj) (As := [.int (chV (u.2 1) (u.2 2) (u.2 3) (nI nv))]) (rest := []) ⟨hx, hb, hml, hown, hts⟩ (mt_X5_manyOf l G h (oA u 26 g6) lt sj nl (chV (u.2 1) (u.2 2) (u.2 3) (nI nv)) (hnl) (by first | assumption | omega)) (cwV 1 hts gX5_openLines_X5_manyOf rfl rfl rfl (by decide +kernel) ⟨Nat.le_of_ble_eq_true rfl, Nat.le_of_ble_eq_true rfl⟩) hK hN hP 0 5 rfl rfl rfl hl.1 rfl (Nat.le_of_ble_eq_true rfl) ⟨Nat.zero_le _, Nat.zero_le _⟩ dX5_openLines_9 (fun r9 hw9 => ?_)
  obtain rfl := hw9
  have hc9 := cnt_le (sdb ((oA u 26 g6).2 6) ((oA u 26 g6).2 7) (chV (u.2 1) (u.2 2) (u.2 3) (nI nv))) nl
  exact W.iret (v := nI (cnt (sdb ((oA u 26 g6).2 6) ((oA u 26 g6).2 7) (chV (u.2 1) (u.2 2) (u.2 3) (nI nv))) nl)) hx hb hr (fun t ht hW => ⟨⟨nI (cnt (sdb ((oA u 26 g6).2 6) ((oA u 26 g6).2 7) (chV (u.2 1) (u.2 2) (u.2 3) (nI nv))) nl), (oA u 26 g6, lt, sj), rfl, ⟨_, rfl, rfl⟩, show PP G (mw G h (oA u 26 g6) lt sj) t.heap by rw [ht]; exact hP⟩, hS.F ht⟩) hS.2.2 dX5_openLines_12
set_option maxHeartbeats 1000000 in
set_option maxRecDepth 100000 in
theorem mt_X5_isChange (l : Launch) (G : gG) (h : Nat → Nat) (sz : Nat) (u : oS) (lt : Int64) (sj : Nat → Int64) (g0 : Nat → Int32) (nv : Nat) (w : Int32) (hnv : u.1 0 = nI nv) (hnv24 : nv ≤ 24) (hpar : parOK (u.2 1) (nv + 1)) : Met l yX5_isChange wsX5_isChange ({ frames := 1, cells := 0, slots := 0, locals := 25 }) (preW G (mw G h (oA u 26 g0) lt sj) sz [.ref (h 0), .int w]) (va_Qi (fun (r : Int32) (v : oS × Int64 × (Nat → Int64)) => (∃ g, v = (oA u 26 g, lt, sj) ∧ r = 1) ∨ (∃ g, v = (oA u 26 g, lt, sj) ∧ r = 0)) (fun v t => PP G (mw G h v.1 v.2.1 v.2.2) t.heap) (va_A (mw G h (oA u 26 g0) lt sj) sz)) 0 0 (va_A (mw G h (oA u 26 g0) lt sj) sz) := by
  refine Met.ofW (cc := cX5_isChange) (maxL := 2) (ret := (some .boolean)) (by decide) rfl ?_
  intro p e s m args below meth c s₁ B hml hv
  obtain ⟨ha, hsz, hP, hK, hN, hD0⟩ := hv
  subst ha
  have hx := B.exec
  have hb := B.bytes
  have hr := B.returns
  have hts := atoms_spec (ws := wsX5_isChange) B.pre
  have hown : s.vm.findClass RX5 = some m.cls := findClass_of_methodNamed B.named
  have hlocks := B.notSynchronized
  subst hsz
  have hD := hD0.self (sz := s.heap.size)
  generalize hAe : va_A (mw G h (oA u 26 g0) lt sj) s.heap.size = A at hD ⊢
  have hA : ∀ q : Nat, s.heap.size ≤ q → A q := fun q h => by rw [← hAe]; exact Or.inr h
  clear hAe hD0
  have hS : va_S A s.heap s.heap [] := va_S.rf
  have hiX5 : ∀ w ∈ wsX50, w ∈ wsX5_isChange := by decide +kernel
  have k91 := hts (.fieldLink RX5 91 "WovenHistoryModel" "versions" "I") (List.mem_of_getElem? (i := 1) rfl)
  have hl := lv_entry ([.ref (h 0), .int w]) (n := 2) (Nat.le_of_ble_eq_true rfl)
  rw [lg_entry_eq]
  generalize (lg_sl ([.ref (h 0), .int w]) ++ List.replicate (2 - (lg_sl ([.ref (h 0), .int w])).length) Slot.unset).toArray = ls at hl ⊢
  have hl : lv_has ls 2 [(0, .ref (h 0)), (1, .int w)] := hl
  refine lv_aload_n hx hb dX5_isChange_0 rfl (lv_at hl 0 rfl) ?_
  refine lv_aload_n hx hb dX5_isChange_1 rfl (lv_at hl 0 rfl) ?_
  refine va_get (D := gD G) (ci := 5) (v := .int (u.1 0)) (C := RX5) (T := TX5) (N := 38) hx hb hts hiX5 hown hK hP 0 rfl rfl 0 (by decide) k91 (fun _ h9 => h9) rfl dX5_isChange_2 ?_
  refine topE hnv ?_
  refine cXi (As := [.int (nI nv)]) (rest := []) (S := oS × Int64 × (Nat → Int64)) (wa := mw G h (oA u 26 g0) lt sj) (w1 := fun v => mw G h v.1 v.2.1 v.2.2) ⟨hx, hb, hml, hown, hts⟩ (mt_X5_changesOf l G h _ u lt sj g0 nv (by first | assumption | omega) (by first | assumption | omega)) (cwV 1 hts gX5_isChange_X5_changesOf rfl rfl rfl (by decide +kernel) ⟨Nat.le_of_ble_eq_true rfl, Nat.le_of_ble_eq_true rfl⟩) hK hN hP hD hS hA (fun _ => rfl) 0 5 rfl rfl rfl hl.1 rfl (Nat.le_of_ble_eq_true rfl) ⟨Nat.zero_le _, Nat.zero_le _⟩ dX5_isChange_5 (fun r5 u5 H locs hw5 hP hD hS => ?_)
  obtain ⟨g5, rfl, rfl⟩ := hw5
  have hP : PP G (mw G h (oA u 26 g5) lt sj) H := hP
  have hD : va_D A (mw G h (oA u 26 g5) lt sj) := hD
  refine lv_iload_n hx hb dX5_isChange_8 rfl (lv_at hl 1 rfl) ?_
  refine cSi (As := [.int (chV (u.2 1) (u.2 2) (u.2 3) (nI nv)), .int w]) (rest := []) ⟨hx, hb, hml, hown, hts⟩ (mt_X5_has l (chV (u.2 1) (u.2 2) (u.2 3) (nI nv)) w) (va_cwS 2 hts gX5_isChange_X5_has rfl rfl rfl (by decide +kernel) ⟨Nat.le_of_ble_eq_true rfl, Nat.le_of_ble_eq_true rfl⟩) rfl hl.1 rfl (Nat.le_of_ble_eq_true rfl) ⟨Nat.zero_le _, Nat.zero_le _⟩ dX5_isChange_9 (fun r9 hw9 => ?_)
  rcases hw9 with ⟨rfl, hy9⟩ | ⟨rfl, hn9⟩
  · skip
    exact W.zret (v := (1 : Int32)) hx hb hr (by decide) (fun t ht hW => ⟨⟨(1 : Int32), (oA u 26 g5, lt, sj), rfl, by first | exact Or.inl ⟨_, rfl, rfl⟩ | exact Or.inr ⟨_, rfl, rfl⟩, show PP G (mw G h (oA u 26 g5) lt sj) t.heap by rw [ht]; exact hP⟩, hS.F ht⟩) hS.2.2 dX5_isChange_12
  · skip
    exact W.zret (v := (0 : Int32)) hx hb hr (by decide) (fun t ht hW => ⟨⟨(0 : Int32), (oA u 26 g5, lt, sj), rfl, by first | exact Or.inl ⟨_, rfl, rfl⟩ | exact Or.inr ⟨_, rfl, rfl⟩, show PP G (mw G h (oA u 26 g5) lt sj) t.heap by rw [ht]; exact hP⟩, hS.F ht⟩) hS.2.2 dX5_isChange_12
set_option maxHeartbeats 1000000 in
set_option maxRecDepth 100000 in
theorem mt_X5_told (l : Launch) (G : gG) (h : Nat → Nat) (sz : Nat) (u : oS) (lt : Int64) (sj : Nat → Int64) (what : Int32) (nv nl nt nh : Nat) (hI : MIx u nv nl nt nh) : Met l yX5_told wsX5_told ({ frames := 4, cells := 0, slots := 0, locals := 88 }) (preW G (mw G h u lt sj) sz [.ref (h 0), .int what]) (va_Qi (fun (r : Int32) (v : oS × Int64 × (Nat → Int64)) => MIk u v.1) (fun v t => PP G (mw G h v.1 v.2.1 v.2.2) t.heap) (va_A (mw G h u lt sj) sz)) 0 0 (va_A (mw G h u lt sj) sz) := by
  refine Met.ofW (cc := cX5_told) (maxL := 2) (ret := (some .int)) (by decide) rfl ?_
  intro p e s m args below meth c s₁ B hml hv
  obtain ⟨ha, hsz, hP, hK, hN, hD0⟩ := hv
  subst ha
  have hx := B.exec
  have hb := B.bytes
  have hr := B.returns
  have hts := atoms_spec (ws := wsX5_told) B.pre
  have hown : s.vm.findClass RX5 = some m.cls := findClass_of_methodNamed B.named
  have hlocks := B.notSynchronized
  subst hsz
  have hD := hD0.self (sz := s.heap.size)
  generalize hAe : va_A (mw G h u lt sj) s.heap.size = A at hD ⊢
  have hA : ∀ q : Nat, s.heap.size ≤ q → A q := fun q h => by rw [← hAe]; exact Or.inr h
  clear hAe hD0
  have hS : va_S A s.heap s.heap [] := va_S.rf
  have hiX5 : ∀ w ∈ wsX50, w ∈ wsX5_told := by decide +kernel
  have k91 := hts (.fieldLink RX5 91 "WovenHistoryModel" "versions" "I") (List.mem_of_getElem? (i := 1) rfl)
  have k175 := hts (.fieldLink RX5 175 "WovenHistoryModel" "lines" "I") (List.mem_of_getElem? (i := 2) rfl)
  have k178 := hts (.fieldLink RX5 178 "WovenHistoryModel" "isOpen" "Z") (List.mem_of_getElem? (i := 3) rfl)
  have k7 := hts (.fieldLink RX5 7 "WovenHistoryModel" "parent" "[I") (List.mem_of_getElem? (i := 4) rfl)
  have k101 := hts (.fieldLink RX5 101 "WovenHistoryModel" "texted" "I") (List.mem_of_getElem? (i := 5) rfl)
  have hl := lv_entry ([.ref (h 0), .int what]) (n := 2) (Nat.le_of_ble_eq_true rfl)
  rw [lg_entry_eq]
  generalize (lg_sl ([.ref (h 0), .int what]) ++ List.replicate (2 - (lg_sl ([.ref (h 0), .int what])).length) Slot.unset).toArray = ls at hl ⊢
  have hl : lv_has ls 2 [(0, .ref (h 0)), (1, .int what)] := hl
  have hI0 := hI
  obtain ⟨hnv, hnl, hnt, hnh, hnv24, hnl120, hnt240, hnh120, hop, hopn, hparV, hsz4, himg⟩ := hI
  refine lv_iload_n hx hb dX5_told_0 rfl (lv_at hl 1 rfl) ?_
  by_cases q1_0 : what = 0
  · skip
    subst q1_0
    refine lv_tableIn (tgt := 56) hx hb dX5_told_1 (by decide) (by decide) rfl (by decide) ?_
    refine lv_aload_n hx hb dX5_told_56 rfl (lv_at hl 0 rfl) ?_
    refine va_get (D := gD G) (ci := 5) (v := .int (u.1 0)) (C := RX5) (T := TX5) (N := 38) hx hb hts hiX5 hown hK hP 0 rfl rfl 0 (by decide) k91 (fun _ h9 => h9) rfl dX5_told_57 ?_
    refine topE hnv ?_
    exact W.iret (v := nI nv) hx hb hr (fun t ht hW => ⟨⟨nI nv, (u, lt, sj), rfl, ⟨⟨nv, nl, nt, nh, hI0⟩, ⟨rfl, rfl, rfl⟩, rfl, rfl⟩, show PP G (mw G h u lt sj) t.heap by rw [ht]; exact hP⟩, hS.F ht⟩) hS.2.2 dX5_told_60
  by_cases q1_1 : what = 1
  · skip
    subst q1_1
    refine lv_tableIn (tgt := 61) hx hb dX5_told_1 (by decide) (by decide) rfl (by decide) ?_
    refine lv_aload_n hx hb dX5_told_61 rfl (lv_at hl 0 rfl) ?_
    refine va_get (D := gD G) (ci := 5) (v := .int (u.1 4)) (C := RX5) (T := TX5) (N := 38) hx hb hts hiX5 hown hK hP 0 rfl rfl 4 (by decide) k175 (fun _ h9 => h9) rfl dX5_told_62 ?_
    refine topE hnl ?_
    exact W.iret (v := nI nl) hx hb hr (fun t ht hW => ⟨⟨nI nl, (u, lt, sj), rfl, ⟨⟨nv, nl, nt, nh, hI0⟩, ⟨rfl, rfl, rfl⟩, rfl, rfl⟩, show PP G (mw G h u lt sj) t.heap by rw [ht]; exact hP⟩, hS.F ht⟩) hS.2.2 dX5_told_65
  by_cases q1_2 : what = 2
  · skip
    subst q1_2
    refine lv_tableIn (tgt := 66) hx hb dX5_told_1 (by decide) (by decide) rfl (by decide) ?_
    refine lv_aload_n hx hb dX5_told_66 rfl (lv_at hl 0 rfl) ?_
    refine va_get (D := gD G) (ci := 5) (v := .int (u.1 8)) (C := RX5) (T := TX5) (N := 38) hx hb hts hiX5 hown hK hP 0 rfl rfl 8 (by decide) k178 (fun _ h9 => h9) rfl dX5_told_67 ?_
    refine lv_if_eq (tgt := 85) hx hb dX5_told_70 (by decide) (fun c70 => ?_) (fun c70 => ?_)
    · skip
      refine lv_iconst (v := (-1 : Int32)) hx hb dX5_told_85 (by decide) ?_
      exact W.iret (v := (-1 : Int32)) hx hb hr (fun t ht hW => ⟨⟨(-1 : Int32), (u, lt, sj), rfl, ⟨⟨nv, nl, nt, nh, hI0⟩, ⟨rfl, rfl, rfl⟩, rfl, rfl⟩, show PP G (mw G h u lt sj) t.heap by rw [ht]; exact hP⟩, hS.F ht⟩) hS.2.2 dX5_told_86
    · skip
      refine lv_aload_n hx hb dX5_told_73 rfl (lv_at hl 0 rfl) ?_
      refine va_get (D := gD G) (ci := 5) (v := .ref (h 1)) (C := RX5) (T := TX5) (N := 38) hx hb hts hiX5 hown hK hP 0 rfl rfl 1 (by decide) k7 (fun _ h9 => h9) rfl dX5_told_74 ?_
      refine lv_aload_n hx hb dX5_told_77 rfl (lv_at hl 0 rfl) ?_
      refine va_get (D := gD G) (ci := 5) (v := .int (u.1 0)) (C := RX5) (T := TX5) (N := 38) hx hb hts hiX5 hown hK hP 0 rfl rfl 0 (by decide) k91 (fun _ h9 => h9) rfl dX5_told_78 ?_
      refine topE hnv ?_
      refine ialdN (f := u.2 1) (n := 25) (k := nv) hx hb hK hP 1 rfl rfl (by omega) dX5_told_81 ?_
      refine lv_goto (tgt := 86) hx hb dX5_told_82 (by decide) ?_
      exact W.iret (v := (u.2 1) nv) hx hb hr (fun t ht hW => ⟨⟨(u.2 1) nv, (u, lt, sj), rfl, ⟨⟨nv, nl, nt, nh, hI0⟩, ⟨rfl, rfl, rfl⟩, rfl, rfl⟩, show PP G (mw G h u lt sj) t.heap by rw [ht]; exact hP⟩, hS.F ht⟩) hS.2.2 dX5_told_86
  by_cases q1_3 : what = 3
  · skip
    subst q1_3
    refine lv_tableIn (tgt := 87) hx hb dX5_told_1 (by decide) (by decide) rfl (by decide) ?_
    refine lv_aload_n hx hb dX5_told_87 rfl (lv_at hl 0 rfl) ?_
    refine va_get (D := gD G) (ci := 5) (v := .int (u.1 8)) (C := RX5) (T := TX5) (N := 38) hx hb hts hiX5 hown hK hP 0 rfl rfl 8 (by decide) k178 (fun _ h9 => h9) rfl dX5_told_88 ?_
    refine lv_if_eq (tgt := 98) hx hb dX5_told_91 (by decide) (fun c91 => ?_) (fun c91 => ?_)
    · skip
      refine lv_iconst (v := nI 0) hx hb dX5_told_98 (by decide) ?_
      exact W.iret (v := nI 0) hx hb hr (fun t ht hW => ⟨⟨nI 0, (u, lt, sj), rfl, ⟨⟨nv, nl, nt, nh, hI0⟩, ⟨rfl, rfl, rfl⟩, rfl, rfl⟩, show PP G (mw G h u lt sj) t.heap by rw [ht]; exact hP⟩, hS.F ht⟩) hS.2.2 dX5_told_99
    · skip
      refine lv_iconst (v := nI 1) hx hb dX5_told_94 (by decide) ?_
      refine lv_goto (tgt := 99) hx hb dX5_told_95 (by decide) ?_
      exact W.iret (v := nI 1) hx hb hr (fun t ht hW => ⟨⟨nI 1, (u, lt, sj), rfl, ⟨⟨nv, nl, nt, nh, hI0⟩, ⟨rfl, rfl, rfl⟩, rfl, rfl⟩, show PP G (mw G h u lt sj) t.heap by rw [ht]; exact hP⟩, hS.F ht⟩) hS.2.2 dX5_told_99
  by_cases q1_4 : what = 4
  · skip
    subst q1_4
    refine lv_tableIn (tgt := 100) hx hb dX5_told_1 (by decide) (by decide) rfl (by decide) ?_
    refine lv_aload_n hx hb dX5_told_100 rfl (lv_at hl 0 rfl) ?_
    refine va_get (D := gD G) (ci := 5) (v := .int (u.1 8)) (C := RX5) (T := TX5) (N := 38) hx hb hts hiX5 hown hK hP 0 rfl rfl 8 (by decide) k178 (fun _ h9 => h9) rfl dX5_told_101 ?_
    refine lv_if_eq (tgt := 122) hx hb dX5_told_104 (by decide) (fun c104 => ?_) (fun c104 => ?_)
    · skip
      refine lv_iconst (v := nI 0) hx hb dX5_told_122 (by decide) ?_
      exact W.iret (v := nI 0) hx hb hr (fun t ht hW => ⟨⟨nI 0, (u, lt, sj), rfl, ⟨⟨nv, nl, nt, nh, hI0⟩, ⟨rfl, rfl, rfl⟩, rfl, rfl⟩, show PP G (mw G h u lt sj) t.heap by rw [ht]; exact hP⟩, hS.F ht⟩) hS.2.2 dX5_told_123
    · skip
      obtain ⟨ho1, ho2⟩ := hopn (hop.resolve_left c104)
      refine lv_aload_n hx hb dX5_told_107 rfl (lv_at hl 0 rfl) ?_
      refine lv_aload_n hx hb dX5_told_108 rfl (lv_at hl 0 rfl) ?_
      refine lv_aload_n hx hb dX5_told_109 rfl (lv_at hl 0 rfl) ?_
      refine va_get (D := gD G) (ci := 5) (v := .int (u.1 0)) (C := RX5) (T := TX5) (N := 38) hx hb hts hiX5 hown hK hP 0 rfl rfl 0 (by decide) k91 (fun _ h9 => h9) rfl dX5_told_110 ?_
      refine topE hnv ?_
      have hP := mw_self26 hP
      have hD : va_D A (mw G h (oA u 26 (u.2 26)) lt sj) := mw_self26D hD
      refine cXi (As := [.int (nI nv)]) (rest := [.ref (h 0)]) (S := oS × Int64 × (Nat → Int64)) (wa := mw G h (oA u 26 (u.2 26)) lt sj) (w1 := fun v => mw G h v.1 v.2.1 v.2.2) ⟨hx, hb, hml, hown, hts⟩ (mt_X5_changesOf l G h _ u lt sj (u.2 26) nv (by first | assumption | omega) (ho2)) (cwV 1 hts gX5_told_X5_changesOf rfl rfl rfl (by decide +kernel) ⟨Nat.le_of_ble_eq_true rfl, Nat.le_of_ble_eq_true rfl⟩) hK hN hP hD hS hA (fun _ => rfl) 0 5 rfl rfl rfl hl.1 rfl (Nat.le_of_ble_eq_true rfl) ⟨Nat.zero_le _, Nat.zero_le _⟩ dX5_told_113 (fun r113 u113 H locs hw113 hP hD hS => ?_)
      obtain ⟨g113, rfl, rfl⟩ := hw113
      have hP : PP G (mw G h (oA u 26 g113) lt sj) H := hP
      have hD : va_D A (mw G h (oA u 26 g113) lt sj) := hD
      refine cRi (w := mw G h (oA u 26 g113) lt sj) (As := [.int (chV (u.2 1) (u.2 2) (u.2 3) (nI nv))]) (rest := []) ⟨hx, hb, hml, hown, hts⟩ (mt_X5_manyOf l G h (oA u 26 g113) lt sj nl (chV (u.2 1) (u.2 2) (u.2 3) (nI nv)) (hnl) (by first | assumption | omega)) (cwV 1 hts gX5_told_X5_manyOf rfl rfl rfl (by decide +kernel) ⟨Nat.le_of_ble_eq_true rfl, Nat.le_of_ble_eq_true rfl⟩) hK hN hP 0 5 rfl rfl rfl hl.1 rfl (Nat.le_of_ble_eq_true rfl) ⟨Nat.zero_le _, Nat.zero_le _⟩ dX5_told_116 (fun r116 hw116 => ?_)
      obtain rfl := hw116
      have hc116 := cnt_le (sdb ((oA u 26 g113).2 6) ((oA u 26 g113).2 7) (chV (u.2 1) (u.2 2) (u.2 3) (nI nv))) nl
      refine lv_goto (tgt := 123) hx hb dX5_told_119 (by decide) ?_
      exact W.iret (v := nI (cnt (sdb ((oA u 26 g113).2 6) ((oA u 26 g113).2 7) (chV (u.2 1) (u.2 2) (u.2 3) (nI nv))) nl)) hx hb hr (fun t ht hW => ⟨⟨nI (cnt (sdb ((oA u 26 g113).2 6) ((oA u 26 g113).2 7) (chV (u.2 1) (u.2 2) (u.2 3) (nI nv))) nl), (oA u 26 g113, lt, sj), rfl, ⟨⟨nv, nl, nt, nh, hI0⟩, ⟨rfl, rfl, rfl⟩, rfl, rfl⟩, show PP G (mw G h (oA u 26 g113) lt sj) t.heap by rw [ht]; exact hP⟩, hS.F ht⟩) hS.2.2 dX5_told_123
  by_cases q1_5 : what = 5
  · skip
    subst q1_5
    refine lv_tableIn (tgt := 124) hx hb dX5_told_1 (by decide) (by decide) rfl (by decide) ?_
    refine lv_aload_n hx hb dX5_told_124 rfl (lv_at hl 0 rfl) ?_
    refine cRi (w := mw G h u lt sj) (As := []) (rest := []) ⟨hx, hb, hml, hown, hts⟩ (mt_X5_blocks l G h u lt sj nl (hnl) (by first | assumption | omega)) (cwV 0 hts gX5_told_X5_blocks rfl rfl rfl (by decide +kernel) ⟨Nat.le_of_ble_eq_true rfl, Nat.le_of_ble_eq_true rfl⟩) hK hN hP 0 5 rfl rfl rfl hl.1 rfl (Nat.le_of_ble_eq_true rfl) ⟨Nat.zero_le _, Nat.zero_le _⟩ dX5_told_125 (fun r125 hw125 => ?_)
    obtain rfl := hw125
    have hc125 := cnt_le (nbb (u.2 6) (u.2 7)) nl
    exact W.iret (v := nI (cnt (nbb (u.2 6) (u.2 7)) nl)) hx hb hr (fun t ht hW => ⟨⟨nI (cnt (nbb (u.2 6) (u.2 7)) nl), (u, lt, sj), rfl, ⟨⟨nv, nl, nt, nh, hI0⟩, ⟨rfl, rfl, rfl⟩, rfl, rfl⟩, show PP G (mw G h u lt sj) t.heap by rw [ht]; exact hP⟩, hS.F ht⟩) hS.2.2 dX5_told_128
  by_cases q1_6 : what = 6
  · skip
    subst q1_6
    refine lv_tableIn (tgt := 129) hx hb dX5_told_1 (by decide) (by decide) rfl (by decide) ?_
    refine lv_aload_n hx hb dX5_told_129 rfl (lv_at hl 0 rfl) ?_
    refine cRi (w := mw G h u lt sj) (As := []) (rest := []) ⟨hx, hb, hml, hown, hts⟩ (mt_X5_nest l G h u lt sj nl (hnl) (by first | assumption | omega)) (cwV 0 hts gX5_told_X5_nest rfl rfl rfl (by decide +kernel) ⟨Nat.le_of_ble_eq_true rfl, Nat.le_of_ble_eq_true rfl⟩) hK hN hP 0 5 rfl rfl rfl hl.1 rfl (Nat.le_of_ble_eq_true rfl) ⟨Nat.zero_le _, Nat.zero_le _⟩ dX5_told_130 (fun r130 hw130 => ?_)
    exact W.iret (v := r130) hx hb hr (fun t ht hW => ⟨⟨r130, (u, lt, sj), rfl, ⟨⟨nv, nl, nt, nh, hI0⟩, ⟨rfl, rfl, rfl⟩, rfl, rfl⟩, show PP G (mw G h u lt sj) t.heap by rw [ht]; exact hP⟩, hS.F ht⟩) hS.2.2 dX5_told_133
  by_cases q1_7 : what = 7
  · skip
    subst q1_7
    refine lv_tableIn (tgt := 134) hx hb dX5_told_1 (by decide) (by decide) rfl (by decide) ?_
    refine lv_aload_n hx hb dX5_told_134 rfl (lv_at hl 0 rfl) ?_
    have hP := mw_self26 hP
    have hD : va_D A (mw G h (oA u 26 (u.2 26)) lt sj) := mw_self26D hD
    refine cXi (As := []) (rest := []) (S := oS × Int64 × (Nat → Int64)) (wa := mw G h (oA u 26 (u.2 26)) lt sj) (w1 := fun v => mw G h v.1 v.2.1 v.2.2) ⟨hx, hb, hml, hown, hts⟩ (mt_X5_gone l G h _ u lt sj (u.2 26) nv nl (hnv) (hnl) (by first | assumption | omega) (by first | assumption | omega) (by first | assumption | omega)) (cwV 0 hts gX5_told_X5_gone rfl rfl rfl (by decide +kernel) ⟨Nat.le_of_ble_eq_true rfl, Nat.le_of_ble_eq_true rfl⟩) hK hN hP hD hS hA (fun _ => rfl) 0 5 rfl rfl rfl hl.1 rfl (Nat.le_of_ble_eq_true rfl) ⟨Nat.zero_le _, Nat.zero_le _⟩ dX5_told_135 (fun r135 u135 H locs hw135 hP hD hS => ?_)
    obtain ⟨g135, rfl⟩ := hw135
    have hP : PP G (mw G h (oA u 26 g135) lt sj) H := hP
    have hD : va_D A (mw G h (oA u 26 g135) lt sj) := hD
    exact W.iret (v := r135) hx hb hr (fun t ht hW => ⟨⟨r135, (oA u 26 g135, lt, sj), rfl, ⟨⟨nv, nl, nt, nh, hI0⟩, ⟨rfl, rfl, rfl⟩, rfl, rfl⟩, show PP G (mw G h (oA u 26 g135) lt sj) t.heap by rw [ht]; exact hP⟩, hS.F ht⟩) hS.2.2 dX5_told_138
  by_cases q1_8 : what = 8
  · skip
    subst q1_8
    refine lv_tableIn (tgt := 139) hx hb dX5_told_1 (by decide) (by decide) rfl (by decide) ?_
    refine lv_aload_n hx hb dX5_told_139 rfl (lv_at hl 0 rfl) ?_
    refine va_get (D := gD G) (ci := 5) (v := .int (u.1 10)) (C := RX5) (T := TX5) (N := 38) hx hb hts hiX5 hown hK hP 0 rfl rfl 10 (by decide) k101 (fun _ h9 => h9) rfl dX5_told_140 ?_
    refine topE hnt ?_
    exact W.iret (v := nI nt) hx hb hr (fun t ht hW => ⟨⟨nI nt, (u, lt, sj), rfl, ⟨⟨nv, nl, nt, nh, hI0⟩, ⟨rfl, rfl, rfl⟩, rfl, rfl⟩, show PP G (mw G h u lt sj) t.heap by rw [ht]; exact hP⟩, hS.F ht⟩) hS.2.2 dX5_told_143
  by_cases q1_9 : what = 9
  · skip
    subst q1_9
    refine lv_tableIn (tgt := 144) hx hb dX5_told_1 (by decide) (by decide) rfl (by decide) ?_
    refine lv_aload_n hx hb dX5_told_144 rfl (lv_at hl 0 rfl) ?_
    refine cRi (w := mw G h u lt sj) (As := []) (rest := []) ⟨hx, hb, hml, hown, hts⟩ (mt_X5_sheetsThere l G h u lt sj) (cwV 0 hts gX5_told_X5_sheetsThere rfl rfl rfl (by decide +kernel) ⟨Nat.le_of_ble_eq_true rfl, Nat.le_of_ble_eq_true rfl⟩) hK hN hP 0 5 rfl rfl rfl hl.1 rfl (Nat.le_of_ble_eq_true rfl) ⟨Nat.zero_le _, Nat.zero_le _⟩ dX5_told_145 (fun r145 hw145 => ?_)
    obtain rfl := hw145
    exact W.iret (v := nI (cnt (fun i => decide (¬ u.2 32 i = 0)) 4)) hx hb hr (fun t ht hW => ⟨⟨nI (cnt (fun i => decide (¬ u.2 32 i = 0)) 4), (u, lt, sj), rfl, ⟨⟨nv, nl, nt, nh, hI0⟩, ⟨rfl, rfl, rfl⟩, rfl, rfl⟩, show PP G (mw G h u lt sj) t.heap by rw [ht]; exact hP⟩, hS.F ht⟩) hS.2.2 dX5_told_148
  have t1_0 : ¬ what.toInt = 0 := lv_neT q1_0 rfl
  have t1_1 : ¬ what.toInt = 1 := lv_neT q1_1 rfl
  have t1_2 : ¬ what.toInt = 2 := lv_neT q1_2 rfl
  have t1_3 : ¬ what.toInt = 3 := lv_neT q1_3 rfl
  have t1_4 : ¬ what.toInt = 4 := lv_neT q1_4 rfl
  have t1_5 : ¬ what.toInt = 5 := lv_neT q1_5 rfl
  have t1_6 : ¬ what.toInt = 6 := lv_neT q1_6 rfl
  have t1_7 : ¬ what.toInt = 7 := lv_neT q1_7 rfl
  have t1_8 : ¬ what.toInt = 8 := lv_neT q1_8 rfl
  have t1_9 : ¬ what.toInt = 9 := lv_neT q1_9 rfl
  refine lv_tableOut (tgt := 149) hx hb dX5_told_1 (by omega) (by decide) ?_
  refine lv_ldc (v := (-1000000002 : Int32)) hx hb hown (hts (.constant RX5 100 (-1000000002)) (List.mem_of_getElem? (i := 6) rfl)) dX5_told_149 ?_
  exact W.iret (v := (-1000000002 : Int32)) hx hb hr (fun t ht hW => ⟨⟨(-1000000002 : Int32), (u, lt, sj), rfl, ⟨⟨nv, nl, nt, nh, hI0⟩, ⟨rfl, rfl, rfl⟩, rfl, rfl⟩, show PP G (mw G h u lt sj) t.heap by rw [ht]; exact hP⟩, hS.F ht⟩) hS.2.2 dX5_told_151
set_option maxHeartbeats 1000000 in
set_option maxRecDepth 100000 in
theorem mt_X5_version (l : Launch) (G : gG) (h : Nat → Nat) (sz : Nat) (u : oS) (lt : Int64) (sj : Nat → Int64) (a : Int32) (what : Int32) (nv nl nt nh : Nat) (hI : MIx u nv nl nt nh) : Met l yX5_version wsX5_version ({ frames := 3, cells := 0, slots := 0, locals := 66 }) (preW G (mw G h u lt sj) sz [.ref (h 0), .int a, .int what]) (va_Qi (fun (r : Int32) (v : oS × Int64 × (Nat → Int64)) => MIk u v.1) (fun v t => PP G (mw G h v.1 v.2.1 v.2.2) t.heap) (va_A (mw G h u lt sj) sz)) 0 0 (va_A (mw G h u lt sj) sz) := by
  refine Met.ofW (cc := cX5_version) (maxL := 3) (ret := (some .int)) (by decide) rfl ?_
  intro p e s m args below meth c s₁ B hml hv
  obtain ⟨ha, hsz, hP, hK, hN, hD0⟩ := hv
  subst ha
  have hx := B.exec
  have hb := B.bytes
  have hr := B.returns
  have hts := atoms_spec (ws := wsX5_version) B.pre
  have hown : s.vm.findClass RX5 = some m.cls := findClass_of_methodNamed B.named
  have hlocks := B.notSynchronized
  subst hsz
  have hD := hD0.self (sz := s.heap.size)
  generalize hAe : va_A (mw G h u lt sj) s.heap.size = A at hD ⊢
  have hA : ∀ q : Nat, s.heap.size ≤ q → A q := fun q h => by rw [← hAe]; exact Or.inr h
  clear hAe hD0
  have hS : va_S A s.heap s.heap [] := va_S.rf
  have hiX5 : ∀ w ∈ wsX50, w ∈ wsX5_version := by decide +kernel
  have k7 := hts (.fieldLink RX5 7 "WovenHistoryModel" "parent" "[I") (List.mem_of_getElem? (i := 2) rfl)
  have k13 := hts (.fieldLink RX5 13 "WovenHistoryModel" "includes" "[I") (List.mem_of_getElem? (i := 3) rfl)
  have k16 := hts (.fieldLink RX5 16 "WovenHistoryModel" "excludes" "[I") (List.mem_of_getElem? (i := 4) rfl)
  have hl := lv_entry ([.ref (h 0), .int a, .int what]) (n := 3) (Nat.le_of_ble_eq_true rfl)
  rw [lg_entry_eq]
  generalize (lg_sl ([.ref (h 0), .int a, .int what]) ++ List.replicate (3 - (lg_sl ([.ref (h 0), .int a, .int what])).length) Slot.unset).toArray = ls at hl ⊢
  have hl : lv_has ls 3 [(0, .ref (h 0)), (1, .int a), (2, .int what)] := hl
  have hI0 := hI
  obtain ⟨hnv, hnl, hnt, hnh, hnv24, hnl120, hnt240, hnh120, hop, hopn, hparV, hsz4, himg⟩ := hI
  refine lv_aload_n hx hb dX5_version_0 rfl (lv_at hl 0 rfl) ?_
  refine lv_iload_n hx hb dX5_version_1 rfl (lv_at hl 1 rfl) ?_
  refine cRi (w := mw G h u lt sj) (As := [.int a]) (rest := []) ⟨hx, hb, hml, hown, hts⟩ (mt_X5_isVersion l G h u lt sj nv a (hnv) (by first | assumption | omega)) (cwV 1 hts gX5_version_X5_isVersion rfl rfl rfl (by decide +kernel) ⟨Nat.le_of_ble_eq_true rfl, Nat.le_of_ble_eq_true rfl⟩) hK hN hP 0 5 rfl rfl rfl hl.1 rfl (Nat.le_of_ble_eq_true rfl) ⟨Nat.zero_le _, Nat.zero_le _⟩ dX5_version_2 (fun r2 hw2 => ?_)
  rcases hw2 with ⟨rfl, a1, ha1, rfl⟩ | ⟨rfl, hna1⟩
  · skip
    refine lv_if_ne (tgt := 11) hx hb dX5_version_5 (by decide) (fun _ => ?_) (fun c9 => absurd c9 (by decide))
    refine lv_iload_n hx hb dX5_version_11 rfl (lv_at hl 2 rfl) ?_
    by_cases q12_0 : what = 0
    · skip
      subst q12_0
      refine lv_tableIn (tgt := 56) hx hb dX5_version_12 (by decide) (by decide) rfl (by decide) ?_
      refine lv_aload_n hx hb dX5_version_56 rfl (lv_at hl 0 rfl) ?_
      refine va_get (D := gD G) (ci := 5) (v := .ref (h 1)) (C := RX5) (T := TX5) (N := 38) hx hb hts hiX5 hown hK hP 0 rfl rfl 1 (by decide) k7 (fun _ h9 => h9) rfl dX5_version_57 ?_
      refine lv_iload_n hx hb dX5_version_60 rfl (lv_at hl 1 rfl) ?_
      refine ialdN (f := u.2 1) (n := 25) (k := a1) hx hb hK hP 1 rfl rfl (by omega) dX5_version_61 ?_
      exact W.iret (v := (u.2 1) a1) hx hb hr (fun t ht hW => ⟨⟨(u.2 1) a1, (u, lt, sj), rfl, ⟨⟨nv, nl, nt, nh, hI0⟩, ⟨rfl, rfl, rfl⟩, rfl, rfl⟩, show PP G (mw G h u lt sj) t.heap by rw [ht]; exact hP⟩, hS.F ht⟩) hS.2.2 dX5_version_62
    by_cases q12_1 : what = 1
    · skip
      subst q12_1
      refine lv_tableIn (tgt := 63) hx hb dX5_version_12 (by decide) (by decide) rfl (by decide) ?_
      refine lv_aload_n hx hb dX5_version_63 rfl (lv_at hl 0 rfl) ?_
      refine lv_iload_n hx hb dX5_version_64 rfl (lv_at hl 1 rfl) ?_
      have hP := mw_self26 hP
      have hD : va_D A (mw G h (oA u 26 (u.2 26)) lt sj) := mw_self26D hD
      refine cXi (As := [.int (nI a1)]) (rest := []) (S := oS × Int64 × (Nat → Int64)) (wa := mw G h (oA u 26 (u.2 26)) lt sj) (w1 := fun v => mw G h v.1 v.2.1 v.2.2) ⟨hx, hb, hml, hown, hts⟩ (mt_X5_changesOf l G h _ u lt sj (u.2 26) a1 (by first | assumption | omega) (hparV.le (by omega))) (cwV 1 hts gX5_version_X5_changesOf rfl rfl rfl (by decide +kernel) ⟨Nat.le_of_ble_eq_true rfl, Nat.le_of_ble_eq_true rfl⟩) hK hN hP hD hS hA (fun _ => rfl) 0 5 rfl rfl rfl hl.1 rfl (Nat.le_of_ble_eq_true rfl) ⟨Nat.zero_le _, Nat.zero_le _⟩ dX5_version_65 (fun r65 u65 H locs hw65 hP hD hS => ?_)
      obtain ⟨g65, rfl, rfl⟩ := hw65
      have hP : PP G (mw G h (oA u 26 g65) lt sj) H := hP
      have hD : va_D A (mw G h (oA u 26 g65) lt sj) := hD
      exact W.iret (v := chV (u.2 1) (u.2 2) (u.2 3) (nI a1)) hx hb hr (fun t ht hW => ⟨⟨chV (u.2 1) (u.2 2) (u.2 3) (nI a1), (oA u 26 g65, lt, sj), rfl, ⟨⟨nv, nl, nt, nh, hI0⟩, ⟨rfl, rfl, rfl⟩, rfl, rfl⟩, show PP G (mw G h (oA u 26 g65) lt sj) t.heap by rw [ht]; exact hP⟩, hS.F ht⟩) hS.2.2 dX5_version_68
    by_cases q12_2 : what = 2
    · skip
      subst q12_2
      refine lv_tableIn (tgt := 69) hx hb dX5_version_12 (by decide) (by decide) rfl (by decide) ?_
      refine lv_aload_n hx hb dX5_version_69 rfl (lv_at hl 0 rfl) ?_
      refine va_get (D := gD G) (ci := 5) (v := .ref (h 2)) (C := RX5) (T := TX5) (N := 38) hx hb hts hiX5 hown hK hP 0 rfl rfl 2 (by decide) k13 (fun _ h9 => h9) rfl dX5_version_70 ?_
      refine lv_iload_n hx hb dX5_version_73 rfl (lv_at hl 1 rfl) ?_
      refine ialdN (f := u.2 2) (n := 25) (k := a1) hx hb hK hP 2 rfl rfl (by omega) dX5_version_74 ?_
      exact W.iret (v := (u.2 2) a1) hx hb hr (fun t ht hW => ⟨⟨(u.2 2) a1, (u, lt, sj), rfl, ⟨⟨nv, nl, nt, nh, hI0⟩, ⟨rfl, rfl, rfl⟩, rfl, rfl⟩, show PP G (mw G h u lt sj) t.heap by rw [ht]; exact hP⟩, hS.F ht⟩) hS.2.2 dX5_version_75
    by_cases q12_3 : what = 3
    · skip
      subst q12_3
      refine lv_tableIn (tgt := 76) hx hb dX5_version_12 (by decide) (by decide) rfl (by decide) ?_
      refine lv_aload_n hx hb dX5_version_76 rfl (lv_at hl 0 rfl) ?_
      refine va_get (D := gD G) (ci := 5) (v := .ref (h 3)) (C := RX5) (T := TX5) (N := 38) hx hb hts hiX5 hown hK hP 0 rfl rfl 3 (by decide) k16 (fun _ h9 => h9) rfl dX5_version_77 ?_
      refine lv_iload_n hx hb dX5_version_80 rfl (lv_at hl 1 rfl) ?_
      refine ialdN (f := u.2 3) (n := 25) (k := a1) hx hb hK hP 3 rfl rfl (by omega) dX5_version_81 ?_
      exact W.iret (v := (u.2 3) a1) hx hb hr (fun t ht hW => ⟨⟨(u.2 3) a1, (u, lt, sj), rfl, ⟨⟨nv, nl, nt, nh, hI0⟩, ⟨rfl, rfl, rfl⟩, rfl, rfl⟩, show PP G (mw G h u lt sj) t.heap by rw [ht]; exact hP⟩, hS.F ht⟩) hS.2.2 dX5_version_82
    by_cases q12_4 : what = 4
    · skip
      subst q12_4
      refine lv_tableIn (tgt := 83) hx hb dX5_version_12 (by decide) (by decide) rfl (by decide) ?_
      refine lv_aload_n hx hb dX5_version_83 rfl (lv_at hl 0 rfl) ?_
      refine lv_aload_n hx hb dX5_version_84 rfl (lv_at hl 0 rfl) ?_
      refine lv_iload_n hx hb dX5_version_85 rfl (lv_at hl 1 rfl) ?_
      have hP := mw_self26 hP
      have hD : va_D A (mw G h (oA u 26 (u.2 26)) lt sj) := mw_self26D hD
      refine cXi (As := [.int (nI a1)]) (rest := [.ref (h 0)]) (S := oS × Int64 × (Nat → Int64)) (wa := mw G h (oA u 26 (u.2 26)) lt sj) (w1 := fun v => mw G h v.1 v.2.1 v.2.2) ⟨hx, hb, hml, hown, hts⟩ (mt_X5_changesOf l G h _ u lt sj (u.2 26) a1 (by first | assumption | omega) (hparV.le (by omega))) (cwV 1 hts gX5_version_X5_changesOf rfl rfl rfl (by decide +kernel) ⟨Nat.le_of_ble_eq_true rfl, Nat.le_of_ble_eq_true rfl⟩) hK hN hP hD hS hA (fun _ => rfl) 0 5 rfl rfl rfl hl.1 rfl (Nat.le_of_ble_eq_true rfl) ⟨Nat.zero_le _, Nat.zero_le _⟩ dX5_version_86 (fun r86 u86 H locs hw86 hP hD hS => ?_)
      obtain ⟨g86, rfl, rfl⟩ := hw86
      have hP : PP G (mw G h (oA u 26 g86) lt sj) H := hP
      have hD : va_D A (mw G h (oA u 26 g86) lt sj) := hD
      refine cRi (w := mw G h (oA u 26 g86) lt sj) (As := [.int (chV (u.2 1) (u.2 2) (u.2 3) (nI a1))]) (rest := []) ⟨hx, hb, hml, hown, hts⟩ (mt_X5_manyOf l G h (oA u 26 g86) lt sj nl (chV (u.2 1) (u.2 2) (u.2 3) (nI a1)) (hnl) (by first | assumption | omega)) (cwV 1 hts gX5_version_X5_manyOf rfl rfl rfl (by decide +kernel) ⟨Nat.le_of_ble_eq_true rfl, Nat.le_of_ble_eq_true rfl⟩) hK hN hP 0 5 rfl rfl rfl hl.1 rfl (Nat.le_of_ble_eq_true rfl) ⟨Nat.zero_le _, Nat.zero_le _⟩ dX5_version_89 (fun r89 hw89 => ?_)
      obtain rfl := hw89
      have hc89 := cnt_le (sdb ((oA u 26 g86).2 6) ((oA u 26 g86).2 7) (chV (u.2 1) (u.2 2) (u.2 3) (nI a1))) nl
      exact W.iret (v := nI (cnt (sdb ((oA u 26 g86).2 6) ((oA u 26 g86).2 7) (chV (u.2 1) (u.2 2) (u.2 3) (nI a1))) nl)) hx hb hr (fun t ht hW => ⟨⟨nI (cnt (sdb ((oA u 26 g86).2 6) ((oA u 26 g86).2 7) (chV (u.2 1) (u.2 2) (u.2 3) (nI a1))) nl), (oA u 26 g86, lt, sj), rfl, ⟨⟨nv, nl, nt, nh, hI0⟩, ⟨rfl, rfl, rfl⟩, rfl, rfl⟩, show PP G (mw G h (oA u 26 g86) lt sj) t.heap by rw [ht]; exact hP⟩, hS.F ht⟩) hS.2.2 dX5_version_92
    by_cases q12_5 : what = 5
    · skip
      subst q12_5
      refine lv_tableIn (tgt := 93) hx hb dX5_version_12 (by decide) (by decide) rfl (by decide) ?_
      refine lv_aload_n hx hb dX5_version_93 rfl (lv_at hl 0 rfl) ?_
      refine lv_iload_n hx hb dX5_version_94 rfl (lv_at hl 1 rfl) ?_
      refine cRi (w := mw G h u lt sj) (As := [.int (nI a1)]) (rest := []) ⟨hx, hb, hml, hown, hts⟩ (mt_X5_broughtBy l G h u lt sj nl (nI a1) (hnl) (by first | assumption | omega)) (cwV 1 hts gX5_version_X5_broughtBy rfl rfl rfl (by decide +kernel) ⟨Nat.le_of_ble_eq_true rfl, Nat.le_of_ble_eq_true rfl⟩) hK hN hP 0 5 rfl rfl rfl hl.1 rfl (Nat.le_of_ble_eq_true rfl) ⟨Nat.zero_le _, Nat.zero_le _⟩ dX5_version_95 (fun r95 hw95 => ?_)
      obtain rfl := hw95
      have hc95 := cnt_le (fun i => decide (u.2 6 i = (nI a1))) nl
      exact W.iret (v := nI (cnt (fun i => decide (u.2 6 i = (nI a1))) nl)) hx hb hr (fun t ht hW => ⟨⟨nI (cnt (fun i => decide (u.2 6 i = (nI a1))) nl), (u, lt, sj), rfl, ⟨⟨nv, nl, nt, nh, hI0⟩, ⟨rfl, rfl, rfl⟩, rfl, rfl⟩, show PP G (mw G h u lt sj) t.heap by rw [ht]; exact hP⟩, hS.F ht⟩) hS.2.2 dX5_version_98
    by_cases q12_6 : what = 6
    · skip
      subst q12_6
      refine lv_tableIn (tgt := 99) hx hb dX5_version_12 (by decide) (by decide) rfl (by decide) ?_
      refine lv_aload_n hx hb dX5_version_99 rfl (lv_at hl 0 rfl) ?_
      refine lv_iload_n hx hb dX5_version_100 rfl (lv_at hl 1 rfl) ?_
      refine cRi (w := mw G h u lt sj) (As := [.int (nI a1)]) (rest := []) ⟨hx, hb, hml, hown, hts⟩ (mt_X5_tookBy l G h u lt sj nl (nI a1) (hnl) (by first | assumption | omega)) (cwV 1 hts gX5_version_X5_tookBy rfl rfl rfl (by decide +kernel) ⟨Nat.le_of_ble_eq_true rfl, Nat.le_of_ble_eq_true rfl⟩) hK hN hP 0 5 rfl rfl rfl hl.1 rfl (Nat.le_of_ble_eq_true rfl) ⟨Nat.zero_le _, Nat.zero_le _⟩ dX5_version_101 (fun r101 hw101 => ?_)
      obtain rfl := hw101
      exact W.iret (v := nI (cnt (fun i => decide ((u.2 7 i >>> ((nI a1) &&& 31)) &&& 1 = 1)) nl)) hx hb hr (fun t ht hW => ⟨⟨nI (cnt (fun i => decide ((u.2 7 i >>> ((nI a1) &&& 31)) &&& 1 = 1)) nl), (u, lt, sj), rfl, ⟨⟨nv, nl, nt, nh, hI0⟩, ⟨rfl, rfl, rfl⟩, rfl, rfl⟩, show PP G (mw G h u lt sj) t.heap by rw [ht]; exact hP⟩, hS.F ht⟩) hS.2.2 dX5_version_104
    have t12_0 : ¬ what.toInt = 0 := lv_neT q12_0 rfl
    have t12_1 : ¬ what.toInt = 1 := lv_neT q12_1 rfl
    have t12_2 : ¬ what.toInt = 2 := lv_neT q12_2 rfl
    have t12_3 : ¬ what.toInt = 3 := lv_neT q12_3 rfl
    have t12_4 : ¬ what.toInt = 4 := lv_neT q12_4 rfl
    have t12_5 : ¬ what.toInt = 5 := lv_neT q12_5 rfl
    have t12_6 : ¬ what.toInt = 6 := lv_neT q12_6 rfl
    refine lv_tableOut (tgt := 105) hx hb dX5_version_12 (by omega) (by decide) ?_
    refine lv_ldc (v := (-1000000002 : Int32)) hx hb hown (hts (.constant RX5 100 (-1000000002)) (List.mem_of_getElem? (i := 5) rfl)) dX5_version_105 ?_
    exact W.iret (v := (-1000000002 : Int32)) hx hb hr (fun t ht hW => ⟨⟨(-1000000002 : Int32), (u, lt, sj), rfl, ⟨⟨nv, nl, nt, nh, hI0⟩, ⟨rfl, rfl, rfl⟩, rfl, rfl⟩, show PP G (mw G h u lt sj) t.heap by rw [ht]; exact hP⟩, hS.F ht⟩) hS.2.2 dX5_version_107
  · skip
    refine lv_if_ne (tgt := 11) hx hb dX5_version_5 (by decide) (fun c9 => absurd (by decide) c9) (fun _ => ?_)
    refine lv_ldc (v := (-1000000001 : Int32)) hx hb hown (hts (.constant RX5 216 (-1000000001)) (List.mem_of_getElem? (i := 1) rfl)) dX5_version_8 ?_
    exact W.iret (v := (-1000000001 : Int32)) hx hb hr (fun t ht hW => ⟨⟨(-1000000001 : Int32), (u, lt, sj), rfl, ⟨⟨nv, nl, nt, nh, hI0⟩, ⟨rfl, rfl, rfl⟩, rfl, rfl⟩, show PP G (mw G h u lt sj) t.heap by rw [ht]; exact hP⟩, hS.F ht⟩) hS.2.2 dX5_version_10
set_option maxHeartbeats 1000000 in
set_option maxRecDepth 100000 in
theorem mt_X5_line (l : Launch) (G : gG) (h : Nat → Nat) (sz : Nat) (u : oS) (lt : Int64) (sj : Nat → Int64) (i : Int32) (what : Int32) (nv nl nt nh : Nat) (hI : MIx u nv nl nt nh) : Met l yX5_line wsX5_line ({ frames := 3, cells := 0, slots := 0, locals := 66 }) (preW G (mw G h u lt sj) sz [.ref (h 0), .int i, .int what]) (va_Qi (fun (r : Int32) (v : oS × Int64 × (Nat → Int64)) => MIk u v.1) (fun v t => PP G (mw G h v.1 v.2.1 v.2.2) t.heap) (va_A (mw G h u lt sj) sz)) 0 0 (va_A (mw G h u lt sj) sz) := by
  refine Met.ofW (cc := cX5_line) (maxL := 3) (ret := (some .int)) (by decide) rfl ?_
  intro p e s m args below meth c s₁ B hml hv
  obtain ⟨ha, hsz, hP, hK, hN, hD0⟩ := hv
  subst ha
  have hx := B.exec
  have hb := B.bytes
  have hr := B.returns
  have hts := atoms_spec (ws := wsX5_line) B.pre
  have hown : s.vm.findClass RX5 = some m.cls := findClass_of_methodNamed B.named
  have hlocks := B.notSynchronized
  subst hsz
  have hD := hD0.self (sz := s.heap.size)
  generalize hAe : va_A (mw G h u lt sj) s.heap.size = A at hD ⊢
  have hA : ∀ q : Nat, s.heap.size ≤ q → A q := fun q h => by rw [← hAe]; exact Or.inr h
  clear hAe hD0
  have hS : va_S A s.heap s.heap [] := va_S.rf
  have hiX5 : ∀ w ∈ wsX50, w ∈ wsX5_line := by decide +kernel
  have k175 := hts (.fieldLink RX5 175 "WovenHistoryModel" "lines" "I") (List.mem_of_getElem? (i := 1) rfl)
  have k19 := hts (.fieldLink RX5 19 "WovenHistoryModel" "letter" "[I") (List.mem_of_getElem? (i := 3) rfl)
  have k22 := hts (.fieldLink RX5 22 "WovenHistoryModel" "brought" "[I") (List.mem_of_getElem? (i := 4) rfl)
  have k25 := hts (.fieldLink RX5 25 "WovenHistoryModel" "took" "[I") (List.mem_of_getElem? (i := 5) rfl)
  have hl := lv_entry ([.ref (h 0), .int i, .int what]) (n := 3) (Nat.le_of_ble_eq_true rfl)
  rw [lg_entry_eq]
  generalize (lg_sl ([.ref (h 0), .int i, .int what]) ++ List.replicate (3 - (lg_sl ([.ref (h 0), .int i, .int what])).length) Slot.unset).toArray = ls at hl ⊢
  have hl : lv_has ls 3 [(0, .ref (h 0)), (1, .int i), (2, .int what)] := hl
  have hI0 := hI
  obtain ⟨hnv, hnl, hnt, hnh, hnv24, hnl120, hnt240, hnh120, hop, hopn, hparV, hsz4, himg⟩ := hI
  refine lv_iload_n hx hb dX5_line_0 rfl (lv_at hl 1 rfl) ?_
  refine lv_i2l (v := i.toInt64) hx hb dX5_line_1 rfl ?_
  refine lv_lconst (v := 0) hx hb dX5_line_2 (by decide) ?_
  refine lv_aload_n hx hb dX5_line_3 rfl (lv_at hl 0 rfl) ?_
  refine va_get (D := gD G) (ci := 5) (v := .int (u.1 4)) (C := RX5) (T := TX5) (N := 38) hx hb hts hiX5 hown hK hP 0 rfl rfl 4 (by decide) k175 (fun _ h9 => h9) rfl dX5_line_4 ?_
  refine topE hnl ?_
  refine lv_iconst (v := nI 1) hx hb dX5_line_7 (by decide) ?_
  refine lv_isub hx hb dX5_line_8 ?_
  refine lv_i2l (v := ((nI nl) - (nI 1)).toInt64) hx hb dX5_line_9 rfl ?_
  refine cSi (As := [.long i.toInt64, .long 0, .long (((nI nl) - (nI 1)).toInt64)]) (rest := []) ⟨hx, hb, hml, hown, hts⟩ (mt_X5_in l i.toInt64 0 (((nI nl) - (nI 1)).toInt64)) (va_cwS 3 hts gX5_line_X5_in rfl rfl rfl (by decide +kernel) ⟨Nat.le_of_ble_eq_true rfl, Nat.le_of_ble_eq_true rfl⟩) rfl hl.1 rfl (Nat.le_of_ble_eq_true rfl) ⟨Nat.zero_le _, Nat.zero_le _⟩ dX5_line_10 (fun r10 hw10 => ?_)
  rcases hw10 with ⟨rfl, ha10, hb10⟩ | ⟨rfl, hn10⟩
  · skip
    obtain ⟨i1, hi1, rfl⟩ := isv_y (by omega) ha10 hb10
    refine lv_if_ne (tgt := 19) hx hb dX5_line_13 (by decide) (fun _ => ?_) (fun c9 => absurd c9 (by decide))
    refine lv_iload_n hx hb dX5_line_19 rfl (lv_at hl 2 rfl) ?_
    by_cases q20_0 : what = 0
    · skip
      subst q20_0
      refine lv_tableIn (tgt := 52) hx hb dX5_line_20 (by decide) (by decide) rfl (by decide) ?_
      refine lv_aload_n hx hb dX5_line_52 rfl (lv_at hl 0 rfl) ?_
      refine va_get (D := gD G) (ci := 5) (v := .ref (h 5)) (C := RX5) (T := TX5) (N := 38) hx hb hts hiX5 hown hK hP 0 rfl rfl 5 (by decide) k19 (fun _ h9 => h9) rfl dX5_line_53 ?_
      refine lv_iload_n hx hb dX5_line_56 rfl (lv_at hl 1 rfl) ?_
      refine ialdN (f := u.2 5) (n := 120) (k := i1) hx hb hK hP 4 rfl rfl (by omega) dX5_line_57 ?_
      exact W.iret (v := (u.2 5) i1) hx hb hr (fun t ht hW => ⟨⟨(u.2 5) i1, (u, lt, sj), rfl, ⟨⟨nv, nl, nt, nh, hI0⟩, ⟨rfl, rfl, rfl⟩, rfl, rfl⟩, show PP G (mw G h u lt sj) t.heap by rw [ht]; exact hP⟩, hS.F ht⟩) hS.2.2 dX5_line_58
    by_cases q20_1 : what = 1
    · skip
      subst q20_1
      refine lv_tableIn (tgt := 59) hx hb dX5_line_20 (by decide) (by decide) rfl (by decide) ?_
      refine lv_aload_n hx hb dX5_line_59 rfl (lv_at hl 0 rfl) ?_
      refine va_get (D := gD G) (ci := 5) (v := .ref (h 6)) (C := RX5) (T := TX5) (N := 38) hx hb hts hiX5 hown hK hP 0 rfl rfl 6 (by decide) k22 (fun _ h9 => h9) rfl dX5_line_60 ?_
      refine lv_iload_n hx hb dX5_line_63 rfl (lv_at hl 1 rfl) ?_
      refine ialdN (f := u.2 6) (n := 120) (k := i1) hx hb hK hP 5 rfl rfl (by omega) dX5_line_64 ?_
      exact W.iret (v := (u.2 6) i1) hx hb hr (fun t ht hW => ⟨⟨(u.2 6) i1, (u, lt, sj), rfl, ⟨⟨nv, nl, nt, nh, hI0⟩, ⟨rfl, rfl, rfl⟩, rfl, rfl⟩, show PP G (mw G h u lt sj) t.heap by rw [ht]; exact hP⟩, hS.F ht⟩) hS.2.2 dX5_line_65
    by_cases q20_2 : what = 2
    · skip
      subst q20_2
      refine lv_tableIn (tgt := 66) hx hb dX5_line_20 (by decide) (by decide) rfl (by decide) ?_
      refine lv_aload_n hx hb dX5_line_66 rfl (lv_at hl 0 rfl) ?_
      refine va_get (D := gD G) (ci := 5) (v := .ref (h 7)) (C := RX5) (T := TX5) (N := 38) hx hb hts hiX5 hown hK hP 0 rfl rfl 7 (by decide) k25 (fun _ h9 => h9) rfl dX5_line_67 ?_
      refine lv_iload_n hx hb dX5_line_70 rfl (lv_at hl 1 rfl) ?_
      refine ialdN (f := u.2 7) (n := 120) (k := i1) hx hb hK hP 6 rfl rfl (by omega) dX5_line_71 ?_
      exact W.iret (v := (u.2 7) i1) hx hb hr (fun t ht hW => ⟨⟨(u.2 7) i1, (u, lt, sj), rfl, ⟨⟨nv, nl, nt, nh, hI0⟩, ⟨rfl, rfl, rfl⟩, rfl, rfl⟩, show PP G (mw G h u lt sj) t.heap by rw [ht]; exact hP⟩, hS.F ht⟩) hS.2.2 dX5_line_72
    by_cases q20_3 : what = 3
    · skip
      subst q20_3
      refine lv_tableIn (tgt := 73) hx hb dX5_line_20 (by decide) (by decide) rfl (by decide) ?_
      refine lv_aload_n hx hb dX5_line_73 rfl (lv_at hl 0 rfl) ?_
      refine lv_iload_n hx hb dX5_line_74 rfl (lv_at hl 1 rfl) ?_
      have hP := mw_self26 hP
      have hD : va_D A (mw G h (oA u 26 (u.2 26)) lt sj) := mw_self26D hD
      refine cXi (As := [.int (nI i1)]) (rest := []) (S := oS × Int64 × (Nat → Int64)) (wa := mw G h (oA u 26 (u.2 26)) lt sj) (w1 := fun v => mw G h v.1 v.2.1 v.2.2) ⟨hx, hb, hml, hown, hts⟩ (mt_X5_lifeOf l G h _ u lt sj (u.2 26) nv i1 (hnv) (by first | assumption | omega) (by first | assumption | omega) (by first | assumption | omega)) (cwV 1 hts gX5_line_X5_lifeOf rfl rfl rfl (by decide +kernel) ⟨Nat.le_of_ble_eq_true rfl, Nat.le_of_ble_eq_true rfl⟩) hK hN hP hD hS hA (fun _ => rfl) 0 5 rfl rfl rfl hl.1 rfl (Nat.le_of_ble_eq_true rfl) ⟨Nat.zero_le _, Nat.zero_le _⟩ dX5_line_75 (fun r75 u75 H locs hw75 hP hD hS => ?_)
      obtain ⟨g75, rfl⟩ := hw75
      have hP : PP G (mw G h (oA u 26 g75) lt sj) H := hP
      have hD : va_D A (mw G h (oA u 26 g75) lt sj) := hD
      exact W.iret (v := r75) hx hb hr (fun t ht hW => ⟨⟨r75, (oA u 26 g75, lt, sj), rfl, ⟨⟨nv, nl, nt, nh, hI0⟩, ⟨rfl, rfl, rfl⟩, rfl, rfl⟩, show PP G (mw G h (oA u 26 g75) lt sj) t.heap by rw [ht]; exact hP⟩, hS.F ht⟩) hS.2.2 dX5_line_78
    have t20_0 : ¬ what.toInt = 0 := lv_neT q20_0 rfl
    have t20_1 : ¬ what.toInt = 1 := lv_neT q20_1 rfl
    have t20_2 : ¬ what.toInt = 2 := lv_neT q20_2 rfl
    have t20_3 : ¬ what.toInt = 3 := lv_neT q20_3 rfl
    refine lv_tableOut (tgt := 79) hx hb dX5_line_20 (by omega) (by decide) ?_
    refine lv_ldc (v := (-1000000002 : Int32)) hx hb hown (hts (.constant RX5 100 (-1000000002)) (List.mem_of_getElem? (i := 6) rfl)) dX5_line_79 ?_
    exact W.iret (v := (-1000000002 : Int32)) hx hb hr (fun t ht hW => ⟨⟨(-1000000002 : Int32), (u, lt, sj), rfl, ⟨⟨nv, nl, nt, nh, hI0⟩, ⟨rfl, rfl, rfl⟩, rfl, rfl⟩, show PP G (mw G h u lt sj) t.heap by rw [ht]; exact hP⟩, hS.F ht⟩) hS.2.2 dX5_line_81
  · skip
    refine lv_if_ne (tgt := 19) hx hb dX5_line_13 (by decide) (fun c9 => absurd (by decide) c9) (fun _ => ?_)
    refine lv_ldc (v := (-1000000001 : Int32)) hx hb hown (hts (.constant RX5 216 (-1000000001)) (List.mem_of_getElem? (i := 2) rfl)) dX5_line_16 ?_
    exact W.iret (v := (-1000000001 : Int32)) hx hb hr (fun t ht hW => ⟨⟨(-1000000001 : Int32), (u, lt, sj), rfl, ⟨⟨nv, nl, nt, nh, hI0⟩, ⟨rfl, rfl, rfl⟩, rfl, rfl⟩, show PP G (mw G h u lt sj) t.heap by rw [ht]; exact hP⟩, hS.F ht⟩) hS.2.2 dX5_line_18
set_option maxHeartbeats 1000000 in
set_option maxRecDepth 100000 in
theorem mt_X5_text (l : Launch) (G : gG) (h : Nat → Nat) (sz : Nat) (u : oS) (lt : Int64) (sj : Nat → Int64) (a : Int32) (i : Int32) (what : Int32) (nv nl nt nh : Nat) (hI : MIx u nv nl nt nh) : Met l yX5_text wsX5_text ({ frames := 3, cells := 0, slots := 0, locals := 67 }) (preW G (mw G h u lt sj) sz [.ref (h 0), .int a, .int i, .int what]) (va_Qi (fun (r : Int32) (v : oS × Int64 × (Nat → Int64)) => MIk u v.1) (fun v t => PP G (mw G h v.1 v.2.1 v.2.2) t.heap) (va_A (mw G h u lt sj) sz)) 0 0 (va_A (mw G h u lt sj) sz) := by
  refine Met.ofW (cc := cX5_text) (maxL := 5) (ret := (some .int)) (by decide) rfl ?_
  intro p e s m args below meth c s₁ B hml hv
  obtain ⟨ha, hsz, hP, hK, hN, hD0⟩ := hv
  subst ha
  have hx := B.exec
  have hb := B.bytes
  have hr := B.returns
  have hts := atoms_spec (ws := wsX5_text) B.pre
  have hown : s.vm.findClass RX5 = some m.cls := findClass_of_methodNamed B.named
  have hlocks := B.notSynchronized
  subst hsz
  have hD := hD0.self (sz := s.heap.size)
  generalize hAe : va_A (mw G h u lt sj) s.heap.size = A at hD ⊢
  have hA : ∀ q : Nat, s.heap.size ≤ q → A q := fun q h => by rw [← hAe]; exact Or.inr h
  clear hAe hD0
  have hS : va_S A s.heap s.heap [] := va_S.rf
  have hiX5 : ∀ w ∈ wsX50, w ∈ wsX5_text := by decide +kernel
  have k178 := hts (.fieldLink RX5 178 "WovenHistoryModel" "isOpen" "Z") (List.mem_of_getElem? (i := 4) rfl)
  have k91 := hts (.fieldLink RX5 91 "WovenHistoryModel" "versions" "I") (List.mem_of_getElem? (i := 6) rfl)
  have k19 := hts (.fieldLink RX5 19 "WovenHistoryModel" "letter" "[I") (List.mem_of_getElem? (i := 7) rfl)
  have k22 := hts (.fieldLink RX5 22 "WovenHistoryModel" "brought" "[I") (List.mem_of_getElem? (i := 8) rfl)
  have hl := lv_entry ([.ref (h 0), .int a, .int i, .int what]) (n := 5) (Nat.le_of_ble_eq_true rfl)
  rw [lg_entry_eq]
  generalize (lg_sl ([.ref (h 0), .int a, .int i, .int what]) ++ List.replicate (5 - (lg_sl ([.ref (h 0), .int a, .int i, .int what])).length) Slot.unset).toArray = ls at hl ⊢
  have hl : lv_has ls 5 [(0, .ref (h 0)), (1, .int a), (2, .int i), (3, .int what)] := hl
  have hI0 := hI
  obtain ⟨hnv, hnl, hnt, hnh, hnv24, hnl120, hnt240, hnh120, hop, hopn, hparV, hsz4, himg⟩ := hI
  refine lv_iload_n hx hb dX5_text_0 rfl (lv_at hl 1 rfl) ?_
  refine lv_iconst (v := (-1 : Int32)) hx hb dX5_text_1 (by decide) ?_
  refine lv_icmp_eq (tgt := 16) hx hb dX5_text_2 (by decide) (fun c2 => ?_) (fun c2 => ?_)
  · skip
    subst c2
    refine lv_iload_n hx hb dX5_text_16 rfl (lv_at hl 2 rfl) ?_
    refine lv_if_lt (tgt := 32) hx hb dX5_text_17 (by decide) (fun c17 => ?_) (fun c17 => ?_)
    · skip
      refine lv_ldc (v := (-1000000002 : Int32)) hx hb hown (hts (.constant RX5 100 (-1000000002)) (List.mem_of_getElem? (i := 3) rfl)) dX5_text_32 ?_
      exact W.iret (v := (-1000000002 : Int32)) hx hb hr (fun t ht hW => ⟨⟨(-1000000002 : Int32), (u, lt, sj), rfl, ⟨⟨nv, nl, nt, nh, hI0⟩, ⟨rfl, rfl, rfl⟩, rfl, rfl⟩, show PP G (mw G h u lt sj) t.heap by rw [ht]; exact hP⟩, hS.F ht⟩) hS.2.2 dX5_text_34
    · skip
      obtain ⟨i17, hi17, rfl⟩ := nI_of c17
      refine lv_iload_n hx hb dX5_text_20 rfl (lv_at hl 3 rfl) ?_
      refine lv_i2l (v := what.toInt64) hx hb dX5_text_21 rfl ?_
      refine lv_lconst (v := 0) hx hb dX5_text_22 (by decide) ?_
      refine lv_ldc2 (v := 2) hx hb hown (hts (.constantLong RX5 223 (2)) (List.mem_of_getElem? (i := 2) rfl)) dX5_text_23 ?_
      refine cSi (As := [.long what.toInt64, .long 0, .long 2]) (rest := []) ⟨hx, hb, hml, hown, hts⟩ (mt_X5_in l what.toInt64 0 2) (va_cwS 3 hts gX5_text_X5_in rfl rfl rfl (by decide +kernel) ⟨Nat.le_of_ble_eq_true rfl, Nat.le_of_ble_eq_true rfl⟩) rfl hl.1 rfl (Nat.le_of_ble_eq_true rfl) ⟨Nat.zero_le _, Nat.zero_le _⟩ dX5_text_26 (fun r26 hw26 => ?_)
      rcases hw26 with ⟨rfl, ha26, hb26⟩ | ⟨rfl, hn26⟩
      · skip
        refine lv_if_ne (tgt := 35) hx hb dX5_text_29 (by decide) (fun _ => ?_) (fun c9 => absurd c9 (by decide))
        refine lv_iload_n hx hb dX5_text_35 rfl (lv_at hl 1 rfl) ?_
        refine lv_iconst (v := (-1 : Int32)) hx hb dX5_text_36 (by decide) ?_
        refine lv_icmp_ne (tgt := 50) hx hb dX5_text_37 (by decide) (fun c9 => absurd (by decide) c9) (fun _ => ?_)
        refine lv_aload_n hx hb dX5_text_40 rfl (lv_at hl 0 rfl) ?_
        refine va_get (D := gD G) (ci := 5) (v := .int (u.1 8)) (C := RX5) (T := TX5) (N := 38) hx hb hts hiX5 hown hK hP 0 rfl rfl 8 (by decide) k178 (fun _ h9 => h9) rfl dX5_text_41 ?_
        refine lv_if_ne (tgt := 50) hx hb dX5_text_44 (by decide) (fun c44 => ?_) (fun c44 => ?_)
        · skip
          obtain ⟨ho1, ho2⟩ := hopn (hop.resolve_left c44)
          refine lv_aload_n hx hb dX5_text_50 rfl (lv_at hl 0 rfl) ?_
          refine lv_aload_n hx hb dX5_text_51 rfl (lv_at hl 0 rfl) ?_
          refine lv_iload_n hx hb dX5_text_52 rfl (lv_at hl 1 rfl) ?_
          refine lv_iconst (v := (-1 : Int32)) hx hb dX5_text_53 (by decide) ?_
          refine lv_icmp_ne (tgt := 64) hx hb dX5_text_54 (by decide) (fun c9 => absurd (by decide) c9) (fun _ => ?_)
          refine lv_aload_n hx hb dX5_text_57 rfl (lv_at hl 0 rfl) ?_
          refine va_get (D := gD G) (ci := 5) (v := .int (u.1 0)) (C := RX5) (T := TX5) (N := 38) hx hb hts hiX5 hown hK hP 0 rfl rfl 0 (by decide) k91 (fun _ h9 => h9) rfl dX5_text_58 ?_
          refine topE hnv ?_
          refine lv_goto (tgt := 65) hx hb dX5_text_61 (by decide) ?_
          have hP := mw_self26 hP
          have hD : va_D A (mw G h (oA u 26 (u.2 26)) lt sj) := mw_self26D hD
          refine cXi (As := [.int (nI nv)]) (rest := [.ref (h 0)]) (S := oS × Int64 × (Nat → Int64)) (wa := mw G h (oA u 26 (u.2 26)) lt sj) (w1 := fun v => mw G h v.1 v.2.1 v.2.2) ⟨hx, hb, hml, hown, hts⟩ (mt_X5_changesOf l G h _ u lt sj (u.2 26) nv (by first | assumption | omega) (ho2)) (cwV 1 hts gX5_text_X5_changesOf rfl rfl rfl (by decide +kernel) ⟨Nat.le_of_ble_eq_true rfl, Nat.le_of_ble_eq_true rfl⟩) hK hN hP hD hS hA (fun _ => rfl) 0 5 rfl rfl rfl hl.1 rfl (Nat.le_of_ble_eq_true rfl) ⟨Nat.zero_le _, Nat.zero_le _⟩ dX5_text_65 (fun r65 u65 H locs hw65 hP hD hS => ?_)
          obtain ⟨g65, rfl, rfl⟩ := hw65
          have hP : PP G (mw G h (oA u 26 g65) lt sj) H := hP
          have hD : va_D A (mw G h (oA u 26 g65) lt sj) := hD
          refine lv_iload_n hx hb dX5_text_68 rfl (lv_at hl 2 rfl) ?_
          refine cRi (w := mw G h (oA u 26 g65) lt sj) (As := [.int (chV (u.2 1) (u.2 2) (u.2 3) (nI nv)), .int (nI i17)]) (rest := []) ⟨hx, hb, hml, hown, hts⟩ (mt_X5_lineAt l G h (oA u 26 g65) lt sj nl (chV (u.2 1) (u.2 2) (u.2 3) (nI nv)) i17 (hnl) (by first | assumption | omega) (by first | assumption | omega)) (cwV 2 hts gX5_text_X5_lineAt rfl rfl rfl (by decide +kernel) ⟨Nat.le_of_ble_eq_true rfl, Nat.le_of_ble_eq_true rfl⟩) hK hN hP 0 5 rfl rfl rfl hl.1 rfl (Nat.le_of_ble_eq_true rfl) ⟨Nat.zero_le _, Nat.zero_le _⟩ dX5_text_69 (fun r69 hw69 => ?_)
          rcases hw69 with ⟨i69, hi69, hp69, hq69, rfl⟩ | ⟨hq69, rfl⟩
          · skip
            refine lv_istore (lv' := [(4, .int (nI (i69))), (0, .ref (h 0)), (1, .int (-1 : Int32)), (2, .int (nI i17)), (3, .int what)]) hx hb dX5_text_72 hl (by decide) rfl (fun ls hl => ?_)
            refine lv_iload hx hb dX5_text_74 (lv_at hl 0 rfl) ?_
            refine lv_if_ge (tgt := 81) hx hb dX5_text_76 (by decide) (fun _ => ?_) (fun c9 => absurd (nI_pos' (by omega)) c9)
            refine lv_iload_n hx hb dX5_text_81 rfl (lv_at hl 4 rfl) ?_
            refine lv_if_ne (tgt := 95) hx hb dX5_text_82 (by decide) (fun c82 => ?_) (fun c82 => ?_)
            · skip
              refine lv_iload_n hx hb dX5_text_95 rfl (lv_at hl 4 rfl) ?_
              refine lv_iconst (v := (1 : Int32)) hx hb dX5_text_96 (by decide) ?_
              refine lv_icmp_ne (tgt := 110) hx hb dX5_text_97 (by decide) (fun c97 => ?_) (fun c97 => ?_)
              · skip
                refine lv_iload hx hb dX5_text_110 (lv_at hl 0 rfl) ?_
                exact W.iret (v := nI (i69)) hx hb hr (fun t ht hW => ⟨⟨nI (i69), (oA u 26 g65, lt, sj), rfl, ⟨⟨nv, nl, nt, nh, hI0⟩, ⟨rfl, rfl, rfl⟩, rfl, rfl⟩, show PP G (mw G h (oA u 26 g65) lt sj) t.heap by rw [ht]; exact hP⟩, hS.F ht⟩) hS.2.2 dX5_text_112
              · skip
                refine lv_aload_n hx hb dX5_text_100 rfl (lv_at hl 1 rfl) ?_
                refine va_get (D := gD G) (ci := 5) (v := .ref (h 6)) (C := RX5) (T := TX5) (N := 38) hx hb hts hiX5 hown hK hP 0 rfl rfl 6 (by decide) k22 (fun _ h9 => h9) rfl dX5_text_101 ?_
                refine lv_iload hx hb dX5_text_104 (lv_at hl 0 rfl) ?_
                refine ialdN (f := u.2 6) (n := 120) (k := i69) hx hb hK hP 5 rfl rfl (by omega) dX5_text_106 ?_
                refine lv_goto (tgt := 112) hx hb dX5_text_107 (by decide) ?_
                exact W.iret (v := (u.2 6) i69) hx hb hr (fun t ht hW => ⟨⟨(u.2 6) i69, (oA u 26 g65, lt, sj), rfl, ⟨⟨nv, nl, nt, nh, hI0⟩, ⟨rfl, rfl, rfl⟩, rfl, rfl⟩, show PP G (mw G h (oA u 26 g65) lt sj) t.heap by rw [ht]; exact hP⟩, hS.F ht⟩) hS.2.2 dX5_text_112
            · skip
              refine lv_aload_n hx hb dX5_text_85 rfl (lv_at hl 1 rfl) ?_
              refine va_get (D := gD G) (ci := 5) (v := .ref (h 5)) (C := RX5) (T := TX5) (N := 38) hx hb hts hiX5 hown hK hP 0 rfl rfl 5 (by decide) k19 (fun _ h9 => h9) rfl dX5_text_86 ?_
              refine lv_iload hx hb dX5_text_89 (lv_at hl 0 rfl) ?_
              refine ialdN (f := u.2 5) (n := 120) (k := i69) hx hb hK hP 4 rfl rfl (by omega) dX5_text_91 ?_
              refine lv_goto (tgt := 112) hx hb dX5_text_92 (by decide) ?_
              exact W.iret (v := (u.2 5) i69) hx hb hr (fun t ht hW => ⟨⟨(u.2 5) i69, (oA u 26 g65, lt, sj), rfl, ⟨⟨nv, nl, nt, nh, hI0⟩, ⟨rfl, rfl, rfl⟩, rfl, rfl⟩, show PP G (mw G h (oA u 26 g65) lt sj) t.heap by rw [ht]; exact hP⟩, hS.F ht⟩) hS.2.2 dX5_text_112
          · skip
            refine lv_istore (lv' := [(4, .int (-1 : Int32)), (0, .ref (h 0)), (1, .int (-1 : Int32)), (2, .int (nI i17)), (3, .int what)]) hx hb dX5_text_72 hl (by decide) rfl (fun ls hl => ?_)
            refine lv_iload hx hb dX5_text_74 (lv_at hl 0 rfl) ?_
            refine lv_if_ge (tgt := 81) hx hb dX5_text_76 (by decide) (fun c9 => absurd c9 (by decide)) (fun _ => ?_)
            refine lv_iconst (v := (-1 : Int32)) hx hb dX5_text_79 (by decide) ?_
            exact W.iret (v := (-1 : Int32)) hx hb hr (fun t ht hW => ⟨⟨(-1 : Int32), (oA u 26 g65, lt, sj), rfl, ⟨⟨nv, nl, nt, nh, hI0⟩, ⟨rfl, rfl, rfl⟩, rfl, rfl⟩, show PP G (mw G h (oA u 26 g65) lt sj) t.heap by rw [ht]; exact hP⟩, hS.F ht⟩) hS.2.2 dX5_text_80
        · skip
          refine lv_ldc (v := (-1000000003 : Int32)) hx hb hown (hts (.constant RX5 225 (-1000000003)) (List.mem_of_getElem? (i := 5) rfl)) dX5_text_47 ?_
          exact W.iret (v := (-1000000003 : Int32)) hx hb hr (fun t ht hW => ⟨⟨(-1000000003 : Int32), (u, lt, sj), rfl, ⟨⟨nv, nl, nt, nh, hI0⟩, ⟨rfl, rfl, rfl⟩, rfl, rfl⟩, show PP G (mw G h u lt sj) t.heap by rw [ht]; exact hP⟩, hS.F ht⟩) hS.2.2 dX5_text_49
      · skip
        refine lv_if_ne (tgt := 35) hx hb dX5_text_29 (by decide) (fun c9 => absurd (by decide) c9) (fun _ => ?_)
        refine lv_ldc (v := (-1000000002 : Int32)) hx hb hown (hts (.constant RX5 100 (-1000000002)) (List.mem_of_getElem? (i := 3) rfl)) dX5_text_32 ?_
        exact W.iret (v := (-1000000002 : Int32)) hx hb hr (fun t ht hW => ⟨⟨(-1000000002 : Int32), (u, lt, sj), rfl, ⟨⟨nv, nl, nt, nh, hI0⟩, ⟨rfl, rfl, rfl⟩, rfl, rfl⟩, show PP G (mw G h u lt sj) t.heap by rw [ht]; exact hP⟩, hS.F ht⟩) hS.2.2 dX5_text_34
  · skip
    refine lv_aload_n hx hb dX5_text_5 rfl (lv_at hl 0 rfl) ?_
    refine lv_iload_n hx hb dX5_text_6 rfl (lv_at hl 1 rfl) ?_
    refine cRi (w := mw G h u lt sj) (As := [.int a]) (rest := []) ⟨hx, hb, hml, hown, hts⟩ (mt_X5_isVersion l G h u lt sj nv a (hnv) (by first | assumption | omega)) (cwV 1 hts gX5_text_X5_isVersion rfl rfl rfl (by decide +kernel) ⟨Nat.le_of_ble_eq_true rfl, Nat.le_of_ble_eq_true rfl⟩) hK hN hP 0 5 rfl rfl rfl hl.1 rfl (Nat.le_of_ble_eq_true rfl) ⟨Nat.zero_le _, Nat.zero_le _⟩ dX5_text_7 (fun r7 hw7 => ?_)
    rcases hw7 with ⟨rfl, a1, ha1, rfl⟩ | ⟨rfl, hna1⟩
    · skip
      refine lv_if_ne (tgt := 16) hx hb dX5_text_10 (by decide) (fun _ => ?_) (fun c9 => absurd c9 (by decide))
      refine lv_iload_n hx hb dX5_text_16 rfl (lv_at hl 2 rfl) ?_
      refine lv_if_lt (tgt := 32) hx hb dX5_text_17 (by decide) (fun c17 => ?_) (fun c17 => ?_)
      · skip
        refine lv_ldc (v := (-1000000002 : Int32)) hx hb hown (hts (.constant RX5 100 (-1000000002)) (List.mem_of_getElem? (i := 3) rfl)) dX5_text_32 ?_
        exact W.iret (v := (-1000000002 : Int32)) hx hb hr (fun t ht hW => ⟨⟨(-1000000002 : Int32), (u, lt, sj), rfl, ⟨⟨nv, nl, nt, nh, hI0⟩, ⟨rfl, rfl, rfl⟩, rfl, rfl⟩, show PP G (mw G h u lt sj) t.heap by rw [ht]; exact hP⟩, hS.F ht⟩) hS.2.2 dX5_text_34
      · skip
        obtain ⟨i17, hi17, rfl⟩ := nI_of c17
        refine lv_iload_n hx hb dX5_text_20 rfl (lv_at hl 3 rfl) ?_
        refine lv_i2l (v := what.toInt64) hx hb dX5_text_21 rfl ?_
        refine lv_lconst (v := 0) hx hb dX5_text_22 (by decide) ?_
        refine lv_ldc2 (v := 2) hx hb hown (hts (.constantLong RX5 223 (2)) (List.mem_of_getElem? (i := 2) rfl)) dX5_text_23 ?_
        refine cSi (As := [.long what.toInt64, .long 0, .long 2]) (rest := []) ⟨hx, hb, hml, hown, hts⟩ (mt_X5_in l what.toInt64 0 2) (va_cwS 3 hts gX5_text_X5_in rfl rfl rfl (by decide +kernel) ⟨Nat.le_of_ble_eq_true rfl, Nat.le_of_ble_eq_true rfl⟩) rfl hl.1 rfl (Nat.le_of_ble_eq_true rfl) ⟨Nat.zero_le _, Nat.zero_le _⟩ dX5_text_26 (fun r26 hw26 => ?_)
        rcases hw26 with ⟨rfl, ha26, hb26⟩ | ⟨rfl, hn26⟩
        · skip
          refine lv_if_ne (tgt := 35) hx hb dX5_text_29 (by decide) (fun _ => ?_) (fun c9 => absurd c9 (by decide))
          refine lv_iload_n hx hb dX5_text_35 rfl (lv_at hl 1 rfl) ?_
          refine lv_iconst (v := (-1 : Int32)) hx hb dX5_text_36 (by decide) ?_
          refine lv_icmp_ne (tgt := 50) hx hb dX5_text_37 (by decide) (fun _ => ?_) (fun c9 => absurd c9 (nI_nm1 (by omega)))
          refine lv_aload_n hx hb dX5_text_50 rfl (lv_at hl 0 rfl) ?_
          refine lv_aload_n hx hb dX5_text_51 rfl (lv_at hl 0 rfl) ?_
          refine lv_iload_n hx hb dX5_text_52 rfl (lv_at hl 1 rfl) ?_
          refine lv_iconst (v := (-1 : Int32)) hx hb dX5_text_53 (by decide) ?_
          refine lv_icmp_ne (tgt := 64) hx hb dX5_text_54 (by decide) (fun _ => ?_) (fun c9 => absurd c9 (nI_nm1 (by omega)))
          refine lv_iload_n hx hb dX5_text_64 rfl (lv_at hl 1 rfl) ?_
          have hP := mw_self26 hP
          have hD : va_D A (mw G h (oA u 26 (u.2 26)) lt sj) := mw_self26D hD
          refine cXi (As := [.int (nI a1)]) (rest := [.ref (h 0)]) (S := oS × Int64 × (Nat → Int64)) (wa := mw G h (oA u 26 (u.2 26)) lt sj) (w1 := fun v => mw G h v.1 v.2.1 v.2.2) ⟨hx, hb, hml, hown, hts⟩ (mt_X5_changesOf l G h _ u lt sj (u.2 26) a1 (by first | assumption | omega) (hparV.le (by omega))) (cwV 1 hts gX5_text_X5_changesOf rfl rfl rfl (by decide +kernel) ⟨Nat.le_of_ble_eq_true rfl, Nat.le_of_ble_eq_true rfl⟩) hK hN hP hD hS hA (fun _ => rfl) 0 5 rfl rfl rfl hl.1 rfl (Nat.le_of_ble_eq_true rfl) ⟨Nat.zero_le _, Nat.zero_le _⟩ dX5_text_65 (fun r65 u65 H locs hw65 hP hD hS => ?_)
          obtain ⟨g65, rfl, rfl⟩ := hw65
          have hP : PP G (mw G h (oA u 26 g65) lt sj) H := hP
          have hD : va_D A (mw G h (oA u 26 g65) lt sj) := hD
          refine lv_iload_n hx hb dX5_text_68 rfl (lv_at hl 2 rfl) ?_
          refine cRi (w := mw G h (oA u 26 g65) lt sj) (As := [.int (chV (u.2 1) (u.2 2) (u.2 3) (nI a1)), .int (nI i17)]) (rest := []) ⟨hx, hb, hml, hown, hts⟩ (mt_X5_lineAt l G h (oA u 26 g65) lt sj nl (chV (u.2 1) (u.2 2) (u.2 3) (nI a1)) i17 (hnl) (by first | assumption | omega) (by first | assumption | omega)) (cwV 2 hts gX5_text_X5_lineAt rfl rfl rfl (by decide +kernel) ⟨Nat.le_of_ble_eq_true rfl, Nat.le_of_ble_eq_true rfl⟩) hK hN hP 0 5 rfl rfl rfl hl.1 rfl (Nat.le_of_ble_eq_true rfl) ⟨Nat.zero_le _, Nat.zero_le _⟩ dX5_text_69 (fun r69 hw69 => ?_)
          rcases hw69 with ⟨i69, hi69, hp69, hq69, rfl⟩ | ⟨hq69, rfl⟩
          · skip
            refine lv_istore (lv' := [(4, .int (nI (i69))), (0, .ref (h 0)), (1, .int (nI a1)), (2, .int (nI i17)), (3, .int what)]) hx hb dX5_text_72 hl (by decide) rfl (fun ls hl => ?_)
            refine lv_iload hx hb dX5_text_74 (lv_at hl 0 rfl) ?_
            refine lv_if_ge (tgt := 81) hx hb dX5_text_76 (by decide) (fun _ => ?_) (fun c9 => absurd (nI_pos' (by omega)) c9)
            refine lv_iload_n hx hb dX5_text_81 rfl (lv_at hl 4 rfl) ?_
            refine lv_if_ne (tgt := 95) hx hb dX5_text_82 (by decide) (fun c82 => ?_) (fun c82 => ?_)
            · skip
              refine lv_iload_n hx hb dX5_text_95 rfl (lv_at hl 4 rfl) ?_
              refine lv_iconst (v := (1 : Int32)) hx hb dX5_text_96 (by decide) ?_
              refine lv_icmp_ne (tgt := 110) hx hb dX5_text_97 (by decide) (fun c97 => ?_) (fun c97 => ?_)
              · skip
                refine lv_iload hx hb dX5_text_110 (lv_at hl 0 rfl) ?_
                exact W.iret (v := nI (i69)) hx hb hr (fun t ht hW => ⟨⟨nI (i69), (oA u 26 g65, lt, sj), rfl, ⟨⟨nv, nl, nt, nh, hI0⟩, ⟨rfl, rfl, rfl⟩, rfl, rfl⟩, show PP G (mw G h (oA u 26 g65) lt sj) t.heap by rw [ht]; exact hP⟩, hS.F ht⟩) hS.2.2 dX5_text_112
              · skip
                refine lv_aload_n hx hb dX5_text_100 rfl (lv_at hl 1 rfl) ?_
                refine va_get (D := gD G) (ci := 5) (v := .ref (h 6)) (C := RX5) (T := TX5) (N := 38) hx hb hts hiX5 hown hK hP 0 rfl rfl 6 (by decide) k22 (fun _ h9 => h9) rfl dX5_text_101 ?_
                refine lv_iload hx hb dX5_text_104 (lv_at hl 0 rfl) ?_
                refine ialdN (f := u.2 6) (n := 120) (k := i69) hx hb hK hP 5 rfl rfl (by omega) dX5_text_106 ?_
                refine lv_goto (tgt := 112) hx hb dX5_text_107 (by decide) ?_
                exact W.iret (v := (u.2 6) i69) hx hb hr (fun t ht hW => ⟨⟨(u.2 6) i69, (oA u 26 g65, lt, sj), rfl, ⟨⟨nv, nl, nt, nh, hI0⟩, ⟨rfl, rfl, rfl⟩, rfl, rfl⟩, show PP G (mw G h (oA u 26 g65) lt sj) t.heap by rw [ht]; exact hP⟩, hS.F ht⟩) hS.2.2 dX5_text_112
            · skip
              refine lv_aload_n hx hb dX5_text_85 rfl (lv_at hl 1 rfl) ?_
              refine va_get (D := gD G) (ci := 5) (v := .ref (h 5)) (C := RX5) (T := TX5) (N := 38) hx hb hts hiX5 hown hK hP 0 rfl rfl 5 (by decide) k19 (fun _ h9 => h9) rfl dX5_text_86 ?_
              refine lv_iload hx hb dX5_text_89 (lv_at hl 0 rfl) ?_
              refine ialdN (f := u.2 5) (n := 120) (k := i69) hx hb hK hP 4 rfl rfl (by omega) dX5_text_91 ?_
              refine lv_goto (tgt := 112) hx hb dX5_text_92 (by decide) ?_
              exact W.iret (v := (u.2 5) i69) hx hb hr (fun t ht hW => ⟨⟨(u.2 5) i69, (oA u 26 g65, lt, sj), rfl, ⟨⟨nv, nl, nt, nh, hI0⟩, ⟨rfl, rfl, rfl⟩, rfl, rfl⟩, show PP G (mw G h (oA u 26 g65) lt sj) t.heap by rw [ht]; exact hP⟩, hS.F ht⟩) hS.2.2 dX5_text_112
          · skip
            refine lv_istore (lv' := [(4, .int (-1 : Int32)), (0, .ref (h 0)), (1, .int (nI a1)), (2, .int (nI i17)), (3, .int what)]) hx hb dX5_text_72 hl (by decide) rfl (fun ls hl => ?_)
            refine lv_iload hx hb dX5_text_74 (lv_at hl 0 rfl) ?_
            refine lv_if_ge (tgt := 81) hx hb dX5_text_76 (by decide) (fun c9 => absurd c9 (by decide)) (fun _ => ?_)
            refine lv_iconst (v := (-1 : Int32)) hx hb dX5_text_79 (by decide) ?_
            exact W.iret (v := (-1 : Int32)) hx hb hr (fun t ht hW => ⟨⟨(-1 : Int32), (oA u 26 g65, lt, sj), rfl, ⟨⟨nv, nl, nt, nh, hI0⟩, ⟨rfl, rfl, rfl⟩, rfl, rfl⟩, show PP G (mw G h (oA u 26 g65) lt sj) t.heap by rw [ht]; exact hP⟩, hS.F ht⟩) hS.2.2 dX5_text_80
        · skip
          refine lv_if_ne (tgt := 35) hx hb dX5_text_29 (by decide) (fun c9 => absurd (by decide) c9) (fun _ => ?_)
          refine lv_ldc (v := (-1000000002 : Int32)) hx hb hown (hts (.constant RX5 100 (-1000000002)) (List.mem_of_getElem? (i := 3) rfl)) dX5_text_32 ?_
          exact W.iret (v := (-1000000002 : Int32)) hx hb hr (fun t ht hW => ⟨⟨(-1000000002 : Int32), (u, lt, sj), rfl, ⟨⟨nv, nl, nt, nh, hI0⟩, ⟨rfl, rfl, rfl⟩, rfl, rfl⟩, show PP G (mw G h u lt sj) t.heap by rw [ht]; exact hP⟩, hS.F ht⟩) hS.2.2 dX5_text_34
    · skip
      refine lv_if_ne (tgt := 16) hx hb dX5_text_10 (by decide) (fun c9 => absurd (by decide) c9) (fun _ => ?_)
      refine lv_ldc (v := (-1000000001 : Int32)) hx hb hown (hts (.constant RX5 216 (-1000000001)) (List.mem_of_getElem? (i := 1) rfl)) dX5_text_13 ?_
      exact W.iret (v := (-1000000001 : Int32)) hx hb hr (fun t ht hW => ⟨⟨(-1000000001 : Int32), (u, lt, sj), rfl, ⟨⟨nv, nl, nt, nh, hI0⟩, ⟨rfl, rfl, rfl⟩, rfl, rfl⟩, show PP G (mw G h u lt sj) t.heap by rw [ht]; exact hP⟩, hS.F ht⟩) hS.2.2 dX5_text_15
set_option maxHeartbeats 1000000 in
set_option maxRecDepth 100000 in
theorem mt_X5_openNow (l : Launch) (G : gG) (h : Nat → Nat) (sz : Nat) (u : oS) (lt : Int64) (sj : Nat → Int64) (nv : Nat) (nl : Nat) (x : Int32) (hnv : u.1 0 = nI nv) (hnl : u.1 4 = nI nl) (hnv24 : nv ≤ 24) (hnl120 : nl ≤ 120) : Met l yX5_openNow wsX5_openNow ({ frames := 1, cells := 0, slots := 0, locals := 23 }) (preW G (mw G h u lt sj) sz [.ref (h 0), .int x]) (va_Qv (fun (v : oS × Int64 × (Nat → Int64)) => v = (opU u nv nl x, lt, sj)) (fun v t => PP G (mw G h v.1 v.2.1 v.2.2) t.heap) (va_A (mw G h u lt sj) sz)) 0 0 (va_A (mw G h u lt sj) sz) := by
  refine Met.ofW (cc := cX5_openNow) (maxL := 2) (ret := none) (by decide) rfl ?_
  intro p e s m args below meth c s₁ B hml hv
  obtain ⟨ha, hsz, hP, hK, hN, hD0⟩ := hv
  subst ha
  have hx := B.exec
  have hb := B.bytes
  have hr := B.returns
  have hts := atoms_spec (ws := wsX5_openNow) B.pre
  have hown : s.vm.findClass RX5 = some m.cls := findClass_of_methodNamed B.named
  have hlocks := B.notSynchronized
  subst hsz
  have hD := hD0.self (sz := s.heap.size)
  generalize hAe : va_A (mw G h u lt sj) s.heap.size = A at hD ⊢
  have hA : ∀ q : Nat, s.heap.size ≤ q → A q := fun q h => by rw [← hAe]; exact Or.inr h
  clear hAe hD0
  have hS : va_S A s.heap s.heap [] := va_S.rf
  have hiX5 : ∀ w ∈ wsX50, w ∈ wsX5_openNow := by decide +kernel
  have k175 := hts (.fieldLink RX5 175 "WovenHistoryModel" "lines" "I") (List.mem_of_getElem? (i := 1) rfl)
  have k229 := hts (.fieldLink RX5 229 "WovenHistoryModel" "heldLines" "I") (List.mem_of_getElem? (i := 2) rfl)
  have k19 := hts (.fieldLink RX5 19 "WovenHistoryModel" "letter" "[I") (List.mem_of_getElem? (i := 3) rfl)
  have k63 := hts (.fieldLink RX5 63 "WovenHistoryModel" "heldLetter" "[I") (List.mem_of_getElem? (i := 4) rfl)
  have k22 := hts (.fieldLink RX5 22 "WovenHistoryModel" "brought" "[I") (List.mem_of_getElem? (i := 5) rfl)
  have k66 := hts (.fieldLink RX5 66 "WovenHistoryModel" "heldBrought" "[I") (List.mem_of_getElem? (i := 6) rfl)
  have k25 := hts (.fieldLink RX5 25 "WovenHistoryModel" "took" "[I") (List.mem_of_getElem? (i := 7) rfl)
  have k69 := hts (.fieldLink RX5 69 "WovenHistoryModel" "heldTook" "[I") (List.mem_of_getElem? (i := 8) rfl)
  have k178 := hts (.fieldLink RX5 178 "WovenHistoryModel" "isOpen" "Z") (List.mem_of_getElem? (i := 9) rfl)
  have k7 := hts (.fieldLink RX5 7 "WovenHistoryModel" "parent" "[I") (List.mem_of_getElem? (i := 10) rfl)
  have k91 := hts (.fieldLink RX5 91 "WovenHistoryModel" "versions" "I") (List.mem_of_getElem? (i := 11) rfl)
  have k13 := hts (.fieldLink RX5 13 "WovenHistoryModel" "includes" "[I") (List.mem_of_getElem? (i := 12) rfl)
  have k16 := hts (.fieldLink RX5 16 "WovenHistoryModel" "excludes" "[I") (List.mem_of_getElem? (i := 13) rfl)
  have hl := lv_entry ([.ref (h 0), .int x]) (n := 2) (Nat.le_of_ble_eq_true rfl)
  rw [lg_entry_eq]
  generalize (lg_sl ([.ref (h 0), .int x]) ++ List.replicate (2 - (lg_sl ([.ref (h 0), .int x])).length) Slot.unset).toArray = ls at hl ⊢
  have hl : lv_has ls 2 [(0, .ref (h 0)), (1, .int x)] := hl
  refine lv_aload_n hx hb dX5_openNow_0 rfl (lv_at hl 0 rfl) ?_
  refine lv_aload_n hx hb dX5_openNow_1 rfl (lv_at hl 0 rfl) ?_
  refine va_get (D := gD G) (ci := 5) (v := .int (u.1 4)) (C := RX5) (T := TX5) (N := 38) hx hb hts hiX5 hown hK hP 0 rfl rfl 4 (by decide) k175 (fun _ h9 => h9) rfl dX5_openNow_2 ?_
  refine topE hnl ?_
  refine va_put (D := gD G) (ci := 5) (v := .int (nI nl)) (ty := .int) (C := RX5) (T := TX5) (N := 38) hx hb hts hiX5 tyX5 tyX5_ok nmX5 hown hK hP hD hS 0 rfl rfl 27 (by decide) k229 (fun _ h9 => h9) rfl (by decide +kernel) (rfl) (rfl) (Nat.le_of_ble_eq_true rfl) dX5_openNow_5 (fun H locs hP hD hS => ?_)
  have hP : PP G (mw G h (oI u 27 (nI nl)) lt sj) H := hP
  have hD : va_D A (mw G h (oI u 27 (nI nl)) lt sj) := hD
  refine lv_aload_n hx hb dX5_openNow_8 rfl (lv_at hl 0 rfl) ?_
  refine va_get (D := gD G) (ci := 5) (v := .ref (h 5)) (C := RX5) (T := TX5) (N := 38) hx hb hts hiX5 hown hK hP 0 rfl rfl 5 (by decide) k19 (fun _ h9 => h9) rfl dX5_openNow_9 ?_
  refine lv_aload_n hx hb dX5_openNow_12 rfl (lv_at hl 0 rfl) ?_
  refine va_get (D := gD G) (ci := 5) (v := .ref (h 28)) (C := RX5) (T := TX5) (N := 38) hx hb hts hiX5 hown hK hP 0 rfl rfl 28 (by decide) k63 (fun _ h9 => h9) rfl dX5_openNow_13 ?_
  refine lv_aload_n hx hb dX5_openNow_16 rfl (lv_at hl 0 rfl) ?_
  refine va_get (D := gD G) (ci := 5) (v := .int ((oI u 27 (nI nl)).1 4)) (C := RX5) (T := TX5) (N := 38) hx hb hts hiX5 hown hK hP 0 rfl rfl 4 (by decide) k175 (fun _ h9 => h9) rfl dX5_openNow_17 ?_
  refine topE hnl ?_
  refine cSWv (As := [.ref (h 5), .ref (h 28), .int (nI nl)]) (rest := []) (wa := mw G h (oI u 27 (nI nl)) lt sj) (wc := aw G (h 5) (h 28) 120 120 ((oI u 27 (nI nl)).2 5) ((oI u 27 (nI nl)).2 28)) (w1 := aw G (h 5) (h 28) 120 120 ((oI u 27 (nI nl)).2 5) (cpr ((oI u 27 (nI nl)).2 5) ((oI u 27 (nI nl)).2 28) nl)) (wa' := mw G h (oA (oI u 27 (nI nl)) 28 (cpr ((oI u 27 (nI nl)).2 5) ((oI u 27 (nI nl)).2 28) nl)) lt sj) ⟨hx, hb, hml, hown, hts⟩ (mt_copyRow l G _ (h 5) (h 28) 120 120 ((oI u 27 (nI nl)).2 5) ((oI u 27 (nI nl)).2 28) nl (by omega) (by omega) rfl rfl) (va_cwS 3 hts gX5_openNow_X5_copyRow rfl rfl rfl (by decide +kernel) ⟨Nat.le_of_ble_eq_true rfl, Nat.le_of_ble_eq_true rfl⟩) hK hN hP hD hS hA [4, 17] rfl (by decide) rfl rfl rfl rfl rfl hl.1 rfl (Nat.le_of_ble_eq_true rfl) ⟨Nat.zero_le _, Nat.zero_le _⟩ dX5_openNow_20 (fun H locs hP hD hS => ?_)
  refine lv_aload_n hx hb dX5_openNow_23 rfl (lv_at hl 0 rfl) ?_
  refine va_get (D := gD G) (ci := 5) (v := .ref (h 6)) (C := RX5) (T := TX5) (N := 38) hx hb hts hiX5 hown hK hP 0 rfl rfl 6 (by decide) k22 (fun _ h9 => h9) rfl dX5_openNow_24 ?_
  refine lv_aload_n hx hb dX5_openNow_27 rfl (lv_at hl 0 rfl) ?_
  refine va_get (D := gD G) (ci := 5) (v := .ref (h 29)) (C := RX5) (T := TX5) (N := 38) hx hb hts hiX5 hown hK hP 0 rfl rfl 29 (by decide) k66 (fun _ h9 => h9) rfl dX5_openNow_28 ?_
  refine lv_aload_n hx hb dX5_openNow_31 rfl (lv_at hl 0 rfl) ?_
  refine va_get (D := gD G) (ci := 5) (v := .int ((oA (oI u 27 (nI nl)) 28 (cpr ((oI u 27 (nI nl)).2 5) ((oI u 27 (nI nl)).2 28) nl)).1 4)) (C := RX5) (T := TX5) (N := 38) hx hb hts hiX5 hown hK hP 0 rfl rfl 4 (by decide) k175 (fun _ h9 => h9) rfl dX5_openNow_32 ?_
  refine topE hnl ?_
  refine cSWv (As := [.ref (h 6), .ref (h 29), .int (nI nl)]) (rest := []) (wa := mw G h (oA (oI u 27 (nI nl)) 28 (cpr ((oI u 27 (nI nl)).2 5) ((oI u 27 (nI nl)).2 28) nl)) lt sj) (wc := aw G (h 6) (h 29) 120 120 ((oA (oI u 27 (nI nl)) 28 (cpr ((oI u 27 (nI nl)).2 5) ((oI u 27 (nI nl)).2 28) nl)).2 6) ((oA (oI u 27 (nI nl)) 28 (cpr ((oI u 27 (nI nl)).2 5) ((oI u 27 (nI nl)).2 28) nl)).2 29)) (w1 := aw G (h 6) (h 29) 120 120 ((oA (oI u 27 (nI nl)) 28 (cpr ((oI u 27 (nI nl)).2 5) ((oI u 27 (nI nl)).2 28) nl)).2 6) (cpr ((oA (oI u 27 (nI nl)) 28 (cpr ((oI u 27 (nI nl)).2 5) ((oI u 27 (nI nl)).2 28) nl)).2 6) ((oA (oI u 27 (nI nl)) 28 (cpr ((oI u 27 (nI nl)).2 5) ((oI u 27 (nI nl)).2 28) nl)).2 29) nl)) (wa' := mw G h (oA (oA (oI u 27 (nI nl)) 28 (cpr ((oI u 27 (nI nl)).2 5) ((oI u 27 (nI nl)).2 28) nl)) 29 (cpr ((oA (oI u 27 (nI nl)) 28 (cpr ((oI u 27 (nI nl)).2 5) ((oI u 27 (nI nl)).2 28) nl)).2 6) ((oA (oI u 27 (nI nl)) 28 (cpr ((oI u 27 (nI nl)).2 5) ((oI u 27 (nI nl)).2 28) nl)).2 29) nl)) lt sj) ⟨hx, hb, hml, hown, hts⟩ (mt_copyRow l G _ (h 6) (h 29) 120 120 ((oA (oI u 27 (nI nl)) 28 (cpr ((oI u 27 (nI nl)).2 5) ((oI u 27 (nI nl)).2 28) nl)).2 6) ((oA (oI u 27 (nI nl)) 28 (cpr ((oI u 27 (nI nl)).2 5) ((oI u 27 (nI nl)).2 28) nl)).2 29) nl (by omega) (by omega) rfl rfl) (va_cwS 3 hts gX5_openNow_X5_copyRow rfl rfl rfl (by decide +kernel) ⟨Nat.le_of_ble_eq_true rfl, Nat.le_of_ble_eq_true rfl⟩) hK hN hP hD hS hA [5, 18] rfl (by decide) rfl rfl rfl rfl rfl hl.1 rfl (Nat.le_of_ble_eq_true rfl) ⟨Nat.zero_le _, Nat.zero_le _⟩ dX5_openNow_35 (fun H locs hP hD hS => ?_)
  refine lv_aload_n hx hb dX5_openNow_38 rfl (lv_at hl 0 rfl) ?_
  refine va_get (D := gD G) (ci := 5) (v := .ref (h 7)) (C := RX5) (T := TX5) (N := 38) hx hb hts hiX5 hown hK hP 0 rfl rfl 7 (by decide) k25 (fun _ h9 => h9) rfl dX5_openNow_39 ?_
  refine lv_aload_n hx hb dX5_openNow_42 rfl (lv_at hl 0 rfl) ?_
  refine va_get (D := gD G) (ci := 5) (v := .ref (h 30)) (C := RX5) (T := TX5) (N := 38) hx hb hts hiX5 hown hK hP 0 rfl rfl 30 (by decide) k69 (fun _ h9 => h9) rfl dX5_openNow_43 ?_
  refine lv_aload_n hx hb dX5_openNow_46 rfl (lv_at hl 0 rfl) ?_
  refine va_get (D := gD G) (ci := 5) (v := .int ((oA (oA (oI u 27 (nI nl)) 28 (cpr ((oI u 27 (nI nl)).2 5) ((oI u 27 (nI nl)).2 28) nl)) 29 (cpr ((oA (oI u 27 (nI nl)) 28 (cpr ((oI u 27 (nI nl)).2 5) ((oI u 27 (nI nl)).2 28) nl)).2 6) ((oA (oI u 27 (nI nl)) 28 (cpr ((oI u 27 (nI nl)).2 5) ((oI u 27 (nI nl)).2 28) nl)).2 29) nl)).1 4)) (C := RX5) (T := TX5) (N := 38) hx hb hts hiX5 hown hK hP 0 rfl rfl 4 (by decide) k175 (fun _ h9 => h9) rfl dX5_openNow_47 ?_
  refine topE hnl ?_
  refine cSWv (As := [.ref (h 7), .ref (h 30), .int (nI nl)]) (rest := []) (wa := mw G h (oA (oA (oI u 27 (nI nl)) 28 (cpr ((oI u 27 (nI nl)).2 5) ((oI u 27 (nI nl)).2 28) nl)) 29 (cpr ((oA (oI u 27 (nI nl)) 28 (cpr ((oI u 27 (nI nl)).2 5) ((oI u 27 (nI nl)).2 28) nl)).2 6) ((oA (oI u 27 (nI nl)) 28 (cpr ((oI u 27 (nI nl)).2 5) ((oI u 27 (nI nl)).2 28) nl)).2 29) nl)) lt sj) (wc := aw G (h 7) (h 30) 120 120 ((oA (oA (oI u 27 (nI nl)) 28 (cpr ((oI u 27 (nI nl)).2 5) ((oI u 27 (nI nl)).2 28) nl)) 29 (cpr ((oA (oI u 27 (nI nl)) 28 (cpr ((oI u 27 (nI nl)).2 5) ((oI u 27 (nI nl)).2 28) nl)).2 6) ((oA (oI u 27 (nI nl)) 28 (cpr ((oI u 27 (nI nl)).2 5) ((oI u 27 (nI nl)).2 28) nl)).2 29) nl)).2 7) ((oA (oA (oI u 27 (nI nl)) 28 (cpr ((oI u 27 (nI nl)).2 5) ((oI u 27 (nI nl)).2 28) nl)) 29 (cpr ((oA (oI u 27 (nI nl)) 28 (cpr ((oI u 27 (nI nl)).2 5) ((oI u 27 (nI nl)).2 28) nl)).2 6) ((oA (oI u 27 (nI nl)) 28 (cpr ((oI u 27 (nI nl)).2 5) ((oI u 27 (nI nl)).2 28) nl)).2 29) nl)).2 30)) (w1 := aw G (h 7) (h 30) 120 120 ((oA (oA (oI u 27 (nI nl)) 28 (cpr ((oI u 27 (nI nl)).2 5) ((oI u 27 (nI nl)).2 28) nl)) 29 (cpr ((oA (oI u 27 (nI nl)) 28 (cpr ((oI u 27 (nI nl)).2 5) ((oI u 27 (nI nl)).2 28) nl)).2 6) ((oA (oI u 27 (nI nl)) 28 (cpr ((oI u 27 (nI nl)).2 5) ((oI u 27 (nI nl)).2 28) nl)).2 29) nl)).2 7) (cpr ((oA (oA (oI u 27 (nI nl)) 28 (cpr ((oI u 27 (nI nl)).2 5) ((oI u 27 (nI nl)).2 28) nl)) 29 (cpr ((oA (oI u 27 (nI nl)) 28 (cpr ((oI u 27 (nI nl)).2 5) ((oI u 27 (nI nl)).2 28) nl)).2 6) ((oA (oI u 27 (nI nl)) 28 (cpr ((oI u 27 (nI nl)).2 5) ((oI u 27 (nI nl)).2 28) nl)).2 29) nl)).2 7) ((oA (oA (oI u 27 (nI nl)) 28 (cpr ((oI u 27 (nI nl)).2 5) ((oI u 27 (nI nl)).2 28) nl)) 29 (cpr ((oA (oI u 27 (nI nl)) 28 (cpr ((oI u 27 (nI nl)).2 5) ((oI u 27 (nI nl)).2 28) nl)).2 6) ((oA (oI u 27 (nI nl)) 28 (cpr ((oI u 27 (nI nl)).2 5) ((oI u 27 (nI nl)).2 28) nl)).2 29) nl)).2 30) nl)) (wa' := mw G h (oA (oA (oA (oI u 27 (nI nl)) 28 (cpr ((oI u 27 (nI nl)).2 5) ((oI u 27 (nI nl)).2 28) nl)) 29 (cpr ((oA (oI u 27 (nI nl)) 28 (cpr ((oI u 27 (nI nl)).2 5) ((oI u 27 (nI nl)).2 28) nl)).2 6) ((oA (oI u 27 (nI nl)) 28 (cpr ((oI u 27 (nI nl)).2 5) ((oI u 27 (nI nl)).2 28) nl)).2 29) nl)) 30 (cpr ((oA (oA (oI u 27 (nI nl)) 28 (cpr ((oI u 27 (nI nl)).2 5) ((oI u 27 (nI nl)).2 28) nl)) 29 (cpr ((oA (oI u 27 (nI nl)) 28 (cpr ((oI u 27 (nI nl)).2 5) ((oI u 27 (nI nl)).2 28) nl)).2 6) ((oA (oI u 27 (nI nl)) 28 (cpr ((oI u 27 (nI nl)).2 5) ((oI u 27 (nI nl)).2 28) nl)).2 29) nl)).2 7) ((oA (oA (oI u 27 (nI nl)) 28 (cpr ((oI u 27 (nI nl)).2 5) ((oI u 27 (nI nl)).2 28) nl)) 29 (cpr ((oA (oI u 27 (nI nl)) 28 (cpr ((oI u 27 (nI nl)).2 5) ((oI u 27 (nI nl)).2 28) nl)).2 6) ((oA (oI u 27 (nI nl)) 28 (cpr ((oI u 27 (nI nl)).2 5) ((oI u 27 (nI nl)).2 28) nl)).2 29) nl)).2 30) nl)) lt sj) ⟨hx, hb, hml, hown, hts⟩ (mt_copyRow l G _ (h 7) (h 30) 120 120 ((oA (oA (oI u 27 (nI nl)) 28 (cpr ((oI u 27 (nI nl)).2 5) ((oI u 27 (nI nl)).2 28) nl)) 29 (cpr ((oA (oI u 27 (nI nl)) 28 (cpr ((oI u 27 (nI nl)).2 5) ((oI u 27 (nI nl)).2 28) nl)).2 6) ((oA (oI u 27 (nI nl)) 28 (cpr ((oI u 27 (nI nl)).2 5) ((oI u 27 (nI nl)).2 28) nl)).2 29) nl)).2 7) ((oA (oA (oI u 27 (nI nl)) 28 (cpr ((oI u 27 (nI nl)).2 5) ((oI u 27 (nI nl)).2 28) nl)) 29 (cpr ((oA (oI u 27 (nI nl)) 28 (cpr ((oI u 27 (nI nl)).2 5) ((oI u 27 (nI nl)).2 28) nl)).2 6) ((oA (oI u 27 (nI nl)) 28 (cpr ((oI u 27 (nI nl)).2 5) ((oI u 27 (nI nl)).2 28) nl)).2 29) nl)).2 30) nl (by omega) (by omega) rfl rfl) (va_cwS 3 hts gX5_openNow_X5_copyRow rfl rfl rfl (by decide +kernel) ⟨Nat.le_of_ble_eq_true rfl, Nat.le_of_ble_eq_true rfl⟩) hK hN hP hD hS hA [6, 19] rfl (by decide) rfl rfl rfl rfl rfl hl.1 rfl (Nat.le_of_ble_eq_true rfl) ⟨Nat.zero_le _, Nat.zero_le _⟩ dX5_openNow_50 (fun H locs hP hD hS => ?_)
  refine lv_aload_n hx hb dX5_openNow_53 rfl (lv_at hl 0 rfl) ?_
  refine lv_iconst (v := nI 1) hx hb dX5_openNow_54 (by decide) ?_
  refine va_put (D := gD G) (ci := 5) (v := .int (nI 1)) (ty := .boolean) (C := RX5) (T := TX5) (N := 38) hx hb hts hiX5 tyX5 tyX5_ok nmX5 hown hK hP hD hS 0 rfl rfl 8 (by decide) k178 (fun _ h9 => h9) rfl (by decide +kernel) (rfl) (rfl) (Nat.le_of_ble_eq_true rfl) dX5_openNow_55 (fun H locs hP hD hS => ?_)
  have hP : PP G (mw G h (oI (oA (oA (oA (oI u 27 (nI nl)) 28 (cpr ((oI u 27 (nI nl)).2 5) ((oI u 27 (nI nl)).2 28) nl)) 29 (cpr ((oA (oI u 27 (nI nl)) 28 (cpr ((oI u 27 (nI nl)).2 5) ((oI u 27 (nI nl)).2 28) nl)).2 6) ((oA (oI u 27 (nI nl)) 28 (cpr ((oI u 27 (nI nl)).2 5) ((oI u 27 (nI nl)).2 28) nl)).2 29) nl)) 30 (cpr ((oA (oA (oI u 27 (nI nl)) 28 (cpr ((oI u 27 (nI nl)).2 5) ((oI u 27 (nI nl)).2 28) nl)) 29 (cpr ((oA (oI u 27 (nI nl)) 28 (cpr ((oI u 27 (nI nl)).2 5) ((oI u 27 (nI nl)).2 28) nl)).2 6) ((oA (oI u 27 (nI nl)) 28 (cpr ((oI u 27 (nI nl)).2 5) ((oI u 27 (nI nl)).2 28) nl)).2 29) nl)).2 7) ((oA (oA (oI u 27 (nI nl)) 28 (cpr ((oI u 27 (nI nl)).2 5) ((oI u 27 (nI nl)).2 28) nl)) 29 (cpr ((oA (oI u 27 (nI nl)) 28 (cpr ((oI u 27 (nI nl)).2 5) ((oI u 27 (nI nl)).2 28) nl)).2 6) ((oA (oI u 27 (nI nl)) 28 (cpr ((oI u 27 (nI nl)).2 5) ((oI u 27 (nI nl)).2 28) nl)).2 29) nl)).2 30) nl)) 8 (nI 1)) lt sj) H := hP
  have hD : va_D A (mw G h (oI (oA (oA (oA (oI u 27 (nI nl)) 28 (cpr ((oI u 27 (nI nl)).2 5) ((oI u 27 (nI nl)).2 28) nl)) 29 (cpr ((oA (oI u 27 (nI nl)) 28 (cpr ((oI u 27 (nI nl)).2 5) ((oI u 27 (nI nl)).2 28) nl)).2 6) ((oA (oI u 27 (nI nl)) 28 (cpr ((oI u 27 (nI nl)).2 5) ((oI u 27 (nI nl)).2 28) nl)).2 29) nl)) 30 (cpr ((oA (oA (oI u 27 (nI nl)) 28 (cpr ((oI u 27 (nI nl)).2 5) ((oI u 27 (nI nl)).2 28) nl)) 29 (cpr ((oA (oI u 27 (nI nl)) 28 (cpr ((oI u 27 (nI nl)).2 5) ((oI u 27 (nI nl)).2 28) nl)).2 6) ((oA (oI u 27 (nI nl)) 28 (cpr ((oI u 27 (nI nl)).2 5) ((oI u 27 (nI nl)).2 28) nl)).2 29) nl)).2 7) ((oA (oA (oI u 27 (nI nl)) 28 (cpr ((oI u 27 (nI nl)).2 5) ((oI u 27 (nI nl)).2 28) nl)) 29 (cpr ((oA (oI u 27 (nI nl)) 28 (cpr ((oI u 27 (nI nl)).2 5) ((oI u 27 (nI nl)).2 28) nl)).2 6) ((oA (oI u 27 (nI nl)) 28 (cpr ((oI u 27 (nI nl)).2 5) ((oI u 27 (nI nl)).2 28) nl)).2 29) nl)).2 30) nl)) 8 (nI 1)) lt sj) := hD
  refine lv_aload_n hx hb dX5_openNow_58 rfl (lv_at hl 0 rfl) ?_
  refine va_get (D := gD G) (ci := 5) (v := .ref (h 1)) (C := RX5) (T := TX5) (N := 38) hx hb hts hiX5 hown hK hP 0 rfl rfl 1 (by decide) k7 (fun _ h9 => h9) rfl dX5_openNow_59 ?_
  refine lv_aload_n hx hb dX5_openNow_62 rfl (lv_at hl 0 rfl) ?_
  refine va_get (D := gD G) (ci := 5) (v := .int ((oI (oA (oA (oA (oI u 27 (nI nl)) 28 (cpr ((oI u 27 (nI nl)).2 5) ((oI u 27 (nI nl)).2 28) nl)) 29 (cpr ((oA (oI u 27 (nI nl)) 28 (cpr ((oI u 27 (nI nl)).2 5) ((oI u 27 (nI nl)).2 28) nl)).2 6) ((oA (oI u 27 (nI nl)) 28 (cpr ((oI u 27 (nI nl)).2 5) ((oI u 27 (nI nl)).2 28) nl)).2 29) nl)) 30 (cpr ((oA (oA (oI u 27 (nI nl)) 28 (cpr ((oI u 27 (nI nl)).2 5) ((oI u 27 (nI nl)).2 28) nl)) 29 (cpr ((oA (oI u 27 (nI nl)) 28 (cpr ((oI u 27 (nI nl)).2 5) ((oI u 27 (nI nl)).2 28) nl)).2 6) ((oA (oI u 27 (nI nl)) 28 (cpr ((oI u 27 (nI nl)).2 5) ((oI u 27 (nI nl)).2 28) nl)).2 29) nl)).2 7) ((oA (oA (oI u 27 (nI nl)) 28 (cpr ((oI u 27 (nI nl)).2 5) ((oI u 27 (nI nl)).2 28) nl)) 29 (cpr ((oA (oI u 27 (nI nl)) 28 (cpr ((oI u 27 (nI nl)).2 5) ((oI u 27 (nI nl)).2 28) nl)).2 6) ((oA (oI u 27 (nI nl)) 28 (cpr ((oI u 27 (nI nl)).2 5) ((oI u 27 (nI nl)).2 28) nl)).2 29) nl)).2 30) nl)) 8 (nI 1)).1 0)) (C := RX5) (T := TX5) (N := 38) hx hb hts hiX5 hown hK hP 0 rfl rfl 0 (by decide) k91 (fun _ h9 => h9) rfl dX5_openNow_63 ?_
  refine topE hnv ?_
  refine lv_iload_n hx hb dX5_openNow_66 rfl (lv_at hl 1 rfl) ?_
  refine iastN (f := (oI (oA (oA (oA (oI u 27 (nI nl)) 28 (cpr ((oI u 27 (nI nl)).2 5) ((oI u 27 (nI nl)).2 28) nl)) 29 (cpr ((oA (oI u 27 (nI nl)) 28 (cpr ((oI u 27 (nI nl)).2 5) ((oI u 27 (nI nl)).2 28) nl)).2 6) ((oA (oI u 27 (nI nl)) 28 (cpr ((oI u 27 (nI nl)).2 5) ((oI u 27 (nI nl)).2 28) nl)).2 29) nl)) 30 (cpr ((oA (oA (oI u 27 (nI nl)) 28 (cpr ((oI u 27 (nI nl)).2 5) ((oI u 27 (nI nl)).2 28) nl)) 29 (cpr ((oA (oI u 27 (nI nl)) 28 (cpr ((oI u 27 (nI nl)).2 5) ((oI u 27 (nI nl)).2 28) nl)).2 6) ((oA (oI u 27 (nI nl)) 28 (cpr ((oI u 27 (nI nl)).2 5) ((oI u 27 (nI nl)).2 28) nl)).2 29) nl)).2 7) ((oA (oA (oI u 27 (nI nl)) 28 (cpr ((oI u 27 (nI nl)).2 5) ((oI u 27 (nI nl)).2 28) nl)) 29 (cpr ((oA (oI u 27 (nI nl)) 28 (cpr ((oI u 27 (nI nl)).2 5) ((oI u 27 (nI nl)).2 28) nl)).2 6) ((oA (oI u 27 (nI nl)) 28 (cpr ((oI u 27 (nI nl)).2 5) ((oI u 27 (nI nl)).2 28) nl)).2 29) nl)).2 30) nl)) 8 (nI 1)).2 1) (n := 25) (k := nv) hx hb hK hP hD hS 1 rfl rfl (by omega) dX5_openNow_67 (fun H locs hP hD hS => ?_)
  have hP : PP G (mw G h (oA (oI (oA (oA (oA (oI u 27 (nI nl)) 28 (cpr ((oI u 27 (nI nl)).2 5) ((oI u 27 (nI nl)).2 28) nl)) 29 (cpr ((oA (oI u 27 (nI nl)) 28 (cpr ((oI u 27 (nI nl)).2 5) ((oI u 27 (nI nl)).2 28) nl)).2 6) ((oA (oI u 27 (nI nl)) 28 (cpr ((oI u 27 (nI nl)).2 5) ((oI u 27 (nI nl)).2 28) nl)).2 29) nl)) 30 (cpr ((oA (oA (oI u 27 (nI nl)) 28 (cpr ((oI u 27 (nI nl)).2 5) ((oI u 27 (nI nl)).2 28) nl)) 29 (cpr ((oA (oI u 27 (nI nl)) 28 (cpr ((oI u 27 (nI nl)).2 5) ((oI u 27 (nI nl)).2 28) nl)).2 6) ((oA (oI u 27 (nI nl)) 28 (cpr ((oI u 27 (nI nl)).2 5) ((oI u 27 (nI nl)).2 28) nl)).2 29) nl)).2 7) ((oA (oA (oI u 27 (nI nl)) 28 (cpr ((oI u 27 (nI nl)).2 5) ((oI u 27 (nI nl)).2 28) nl)) 29 (cpr ((oA (oI u 27 (nI nl)) 28 (cpr ((oI u 27 (nI nl)).2 5) ((oI u 27 (nI nl)).2 28) nl)).2 6) ((oA (oI u 27 (nI nl)) 28 (cpr ((oI u 27 (nI nl)).2 5) ((oI u 27 (nI nl)).2 28) nl)).2 29) nl)).2 30) nl)) 8 (nI 1)) 1 (upd ((oI (oA (oA (oA (oI u 27 (nI nl)) 28 (cpr ((oI u 27 (nI nl)).2 5) ((oI u 27 (nI nl)).2 28) nl)) 29 (cpr ((oA (oI u 27 (nI nl)) 28 (cpr ((oI u 27 (nI nl)).2 5) ((oI u 27 (nI nl)).2 28) nl)).2 6) ((oA (oI u 27 (nI nl)) 28 (cpr ((oI u 27 (nI nl)).2 5) ((oI u 27 (nI nl)).2 28) nl)).2 29) nl)) 30 (cpr ((oA (oA (oI u 27 (nI nl)) 28 (cpr ((oI u 27 (nI nl)).2 5) ((oI u 27 (nI nl)).2 28) nl)) 29 (cpr ((oA (oI u 27 (nI nl)) 28 (cpr ((oI u 27 (nI nl)).2 5) ((oI u 27 (nI nl)).2 28) nl)).2 6) ((oA (oI u 27 (nI nl)) 28 (cpr ((oI u 27 (nI nl)).2 5) ((oI u 27 (nI nl)).2 28) nl)).2 29) nl)).2 7) ((oA (oA (oI u 27 (nI nl)) 28 (cpr ((oI u 27 (nI nl)).2 5) ((oI u 27 (nI nl)).2 28) nl)) 29 (cpr ((oA (oI u 27 (nI nl)) 28 (cpr ((oI u 27 (nI nl)).2 5) ((oI u 27 (nI nl)).2 28) nl)).2 6) ((oA (oI u 27 (nI nl)) 28 (cpr ((oI u 27 (nI nl)).2 5) ((oI u 27 (nI nl)).2 28) nl)).2 29) nl)).2 30) nl)) 8 (nI 1)).2 1) nv x)) lt sj) H := hP
  have hD : va_D A (mw G h (oA (oI (oA (oA (oA (oI u 27 (nI nl)) 28 (cpr ((oI u 27 (nI nl)).2 5) ((oI u 27 (nI nl)).2 28) nl)) 29 (cpr ((oA (oI u 27 (nI nl)) 28 (cpr ((oI u 27 (nI nl)).2 5) ((oI u 27 (nI nl)).2 28) nl)).2 6) ((oA (oI u 27 (nI nl)) 28 (cpr ((oI u 27 (nI nl)).2 5) ((oI u 27 (nI nl)).2 28) nl)).2 29) nl)) 30 (cpr ((oA (oA (oI u 27 (nI nl)) 28 (cpr ((oI u 27 (nI nl)).2 5) ((oI u 27 (nI nl)).2 28) nl)) 29 (cpr ((oA (oI u 27 (nI nl)) 28 (cpr ((oI u 27 (nI nl)).2 5) ((oI u 27 (nI nl)).2 28) nl)).2 6) ((oA (oI u 27 (nI nl)) 28 (cpr ((oI u 27 (nI nl)).2 5) ((oI u 27 (nI nl)).2 28) nl)).2 29) nl)).2 7) ((oA (oA (oI u 27 (nI nl)) 28 (cpr ((oI u 27 (nI nl)).2 5) ((oI u 27 (nI nl)).2 28) nl)) 29 (cpr ((oA (oI u 27 (nI nl)) 28 (cpr ((oI u 27 (nI nl)).2 5) ((oI u 27 (nI nl)).2 28) nl)).2 6) ((oA (oI u 27 (nI nl)) 28 (cpr ((oI u 27 (nI nl)).2 5) ((oI u 27 (nI nl)).2 28) nl)).2 29) nl)).2 30) nl)) 8 (nI 1)) 1 (upd ((oI (oA (oA (oA (oI u 27 (nI nl)) 28 (cpr ((oI u 27 (nI nl)).2 5) ((oI u 27 (nI nl)).2 28) nl)) 29 (cpr ((oA (oI u 27 (nI nl)) 28 (cpr ((oI u 27 (nI nl)).2 5) ((oI u 27 (nI nl)).2 28) nl)).2 6) ((oA (oI u 27 (nI nl)) 28 (cpr ((oI u 27 (nI nl)).2 5) ((oI u 27 (nI nl)).2 28) nl)).2 29) nl)) 30 (cpr ((oA (oA (oI u 27 (nI nl)) 28 (cpr ((oI u 27 (nI nl)).2 5) ((oI u 27 (nI nl)).2 28) nl)) 29 (cpr ((oA (oI u 27 (nI nl)) 28 (cpr ((oI u 27 (nI nl)).2 5) ((oI u 27 (nI nl)).2 28) nl)).2 6) ((oA (oI u 27 (nI nl)) 28 (cpr ((oI u 27 (nI nl)).2 5) ((oI u 27 (nI nl)).2 28) nl)).2 29) nl)).2 7) ((oA (oA (oI u 27 (nI nl)) 28 (cpr ((oI u 27 (nI nl)).2 5) ((oI u 27 (nI nl)).2 28) nl)) 29 (cpr ((oA (oI u 27 (nI nl)) 28 (cpr ((oI u 27 (nI nl)).2 5) ((oI u 27 (nI nl)).2 28) nl)).2 6) ((oA (oI u 27 (nI nl)) 28 (cpr ((oI u 27 (nI nl)).2 5) ((oI u 27 (nI nl)).2 28) nl)).2 29) nl)).2 30) nl)) 8 (nI 1)).2 1) nv x)) lt sj) := hD
  refine lv_aload_n hx hb dX5_openNow_68 rfl (lv_at hl 0 rfl) ?_
  refine va_get (D := gD G) (ci := 5) (v := .ref (h 2)) (C := RX5) (T := TX5) (N := 38) hx hb hts hiX5 hown hK hP 0 rfl rfl 2 (by decide) k13 (fun _ h9 => h9) rfl dX5_openNow_69 ?_
  refine lv_aload_n hx hb dX5_openNow_72 rfl (lv_at hl 0 rfl) ?_
  refine va_get (D := gD G) (ci := 5) (v := .int ((oA (oI (oA (oA (oA (oI u 27 (nI nl)) 28 (cpr ((oI u 27 (nI nl)).2 5) ((oI u 27 (nI nl)).2 28) nl)) 29 (cpr ((oA (oI u 27 (nI nl)) 28 (cpr ((oI u 27 (nI nl)).2 5) ((oI u 27 (nI nl)).2 28) nl)).2 6) ((oA (oI u 27 (nI nl)) 28 (cpr ((oI u 27 (nI nl)).2 5) ((oI u 27 (nI nl)).2 28) nl)).2 29) nl)) 30 (cpr ((oA (oA (oI u 27 (nI nl)) 28 (cpr ((oI u 27 (nI nl)).2 5) ((oI u 27 (nI nl)).2 28) nl)) 29 (cpr ((oA (oI u 27 (nI nl)) 28 (cpr ((oI u 27 (nI nl)).2 5) ((oI u 27 (nI nl)).2 28) nl)).2 6) ((oA (oI u 27 (nI nl)) 28 (cpr ((oI u 27 (nI nl)).2 5) ((oI u 27 (nI nl)).2 28) nl)).2 29) nl)).2 7) ((oA (oA (oI u 27 (nI nl)) 28 (cpr ((oI u 27 (nI nl)).2 5) ((oI u 27 (nI nl)).2 28) nl)) 29 (cpr ((oA (oI u 27 (nI nl)) 28 (cpr ((oI u 27 (nI nl)).2 5) ((oI u 27 (nI nl)).2 28) nl)).2 6) ((oA (oI u 27 (nI nl)) 28 (cpr ((oI u 27 (nI nl)).2 5) ((oI u 27 (nI nl)).2 28) nl)).2 29) nl)).2 30) nl)) 8 (nI 1)) 1 (upd ((oI (oA (oA (oA (oI u 27 (nI nl)) 28 (cpr ((oI u 27 (nI nl)).2 5) ((oI u 27 (nI nl)).2 28) nl)) 29 (cpr ((oA (oI u 27 (nI nl)) 28 (cpr ((oI u 27 (nI nl)).2 5) ((oI u 27 (nI nl)).2 28) nl)).2 6) ((oA (oI u 27 (nI nl)) 28 (cpr ((oI u 27 (nI nl)).2 5) ((oI u 27 (nI nl)).2 28) nl)).2 29) nl)) 30 (cpr ((oA (oA (oI u 27 (nI nl)) 28 (cpr ((oI u 27 (nI nl)).2 5) ((oI u 27 (nI nl)).2 28) nl)) 29 (cpr ((oA (oI u 27 (nI nl)) 28 (cpr ((oI u 27 (nI nl)).2 5) ((oI u 27 (nI nl)).2 28) nl)).2 6) ((oA (oI u 27 (nI nl)) 28 (cpr ((oI u 27 (nI nl)).2 5) ((oI u 27 (nI nl)).2 28) nl)).2 29) nl)).2 7) ((oA (oA (oI u 27 (nI nl)) 28 (cpr ((oI u 27 (nI nl)).2 5) ((oI u 27 (nI nl)).2 28) nl)) 29 (cpr ((oA (oI u 27 (nI nl)) 28 (cpr ((oI u 27 (nI nl)).2 5) ((oI u 27 (nI nl)).2 28) nl)).2 6) ((oA (oI u 27 (nI nl)) 28 (cpr ((oI u 27 (nI nl)).2 5) ((oI u 27 (nI nl)).2 28) nl)).2 29) nl)).2 30) nl)) 8 (nI 1)).2 1) nv x)).1 0)) (C := RX5) (T := TX5) (N := 38) hx hb hts hiX5 hown hK hP 0 rfl rfl 0 (by decide) k91 (fun _ h9 => h9) rfl dX5_openNow_73 ?_
  refine topE hnv ?_
  refine lv_iconst (v := nI 0) hx hb dX5_openNow_76 (by decide) ?_
  refine iastN (f := (oA (oI (oA (oA (oA (oI u 27 (nI nl)) 28 (cpr ((oI u 27 (nI nl)).2 5) ((oI u 27 (nI nl)).2 28) nl)) 29 (cpr ((oA (oI u 27 (nI nl)) 28 (cpr ((oI u 27 (nI nl)).2 5) ((oI u 27 (nI nl)).2 28) nl)).2 6) ((oA (oI u 27 (nI nl)) 28 (cpr ((oI u 27 (nI nl)).2 5) ((oI u 27 (nI nl)).2 28) nl)).2 29) nl)) 30 (cpr ((oA (oA (oI u 27 (nI nl)) 28 (cpr ((oI u 27 (nI nl)).2 5) ((oI u 27 (nI nl)).2 28) nl)) 29 (cpr ((oA (oI u 27 (nI nl)) 28 (cpr ((oI u 27 (nI nl)).2 5) ((oI u 27 (nI nl)).2 28) nl)).2 6) ((oA (oI u 27 (nI nl)) 28 (cpr ((oI u 27 (nI nl)).2 5) ((oI u 27 (nI nl)).2 28) nl)).2 29) nl)).2 7) ((oA (oA (oI u 27 (nI nl)) 28 (cpr ((oI u 27 (nI nl)).2 5) ((oI u 27 (nI nl)).2 28) nl)) 29 (cpr ((oA (oI u 27 (nI nl)) 28 (cpr ((oI u 27 (nI nl)).2 5) ((oI u 27 (nI nl)).2 28) nl)).2 6) ((oA (oI u 27 (nI nl)) 28 (cpr ((oI u 27 (nI nl)).2 5) ((oI u 27 (nI nl)).2 28) nl)).2 29) nl)).2 30) nl)) 8 (nI 1)) 1 (upd ((oI (oA (oA (oA (oI u 27 (nI nl)) 28 (cpr ((oI u 27 (nI nl)).2 5) ((oI u 27 (nI nl)).2 28) nl)) 29 (cpr ((oA (oI u 27 (nI nl)) 28 (cpr ((oI u 27 (nI nl)).2 5) ((oI u 27 (nI nl)).2 28) nl)).2 6) ((oA (oI u 27 (nI nl)) 28 (cpr ((oI u 27 (nI nl)).2 5) ((oI u 27 (nI nl)).2 28) nl)).2 29) nl)) 30 (cpr ((oA (oA (oI u 27 (nI nl)) 28 (cpr ((oI u 27 (nI nl)).2 5) ((oI u 27 (nI nl)).2 28) nl)) 29 (cpr ((oA (oI u 27 (nI nl)) 28 (cpr ((oI u 27 (nI nl)).2 5) ((oI u 27 (nI nl)).2 28) nl)).2 6) ((oA (oI u 27 (nI nl)) 28 (cpr ((oI u 27 (nI nl)).2 5) ((oI u 27 (nI nl)).2 28) nl)).2 29) nl)).2 7) ((oA (oA (oI u 27 (nI nl)) 28 (cpr ((oI u 27 (nI nl)).2 5) ((oI u 27 (nI nl)).2 28) nl)) 29 (cpr ((oA (oI u 27 (nI nl)) 28 (cpr ((oI u 27 (nI nl)).2 5) ((oI u 27 (nI nl)).2 28) nl)).2 6) ((oA (oI u 27 (nI nl)) 28 (cpr ((oI u 27 (nI nl)).2 5) ((oI u 27 (nI nl)).2 28) nl)).2 29) nl)).2 30) nl)) 8 (nI 1)).2 1) nv x)).2 2) (n := 25) (k := nv) hx hb hK hP hD hS 2 rfl rfl (by omega) dX5_openNow_77 (fun H locs hP hD hS => ?_)
  have hP : PP G (mw G h (oA (oA (oI (oA (oA (oA (oI u 27 (nI nl)) 28 (cpr ((oI u 27 (nI nl)).2 5) ((oI u 27 (nI nl)).2 28) nl)) 29 (cpr ((oA (oI u 27 (nI nl)) 28 (cpr ((oI u 27 (nI nl)).2 5) ((oI u 27 (nI nl)).2 28) nl)).2 6) ((oA (oI u 27 (nI nl)) 28 (cpr ((oI u 27 (nI nl)).2 5) ((oI u 27 (nI nl)).2 28) nl)).2 29) nl)) 30 (cpr ((oA (oA (oI u 27 (nI nl)) 28 (cpr ((oI u 27 (nI nl)).2 5) ((oI u 27 (nI nl)).2 28) nl)) 29 (cpr ((oA (oI u 27 (nI nl)) 28 (cpr ((oI u 27 (nI nl)).2 5) ((oI u 27 (nI nl)).2 28) nl)).2 6) ((oA (oI u 27 (nI nl)) 28 (cpr ((oI u 27 (nI nl)).2 5) ((oI u 27 (nI nl)).2 28) nl)).2 29) nl)).2 7) ((oA (oA (oI u 27 (nI nl)) 28 (cpr ((oI u 27 (nI nl)).2 5) ((oI u 27 (nI nl)).2 28) nl)) 29 (cpr ((oA (oI u 27 (nI nl)) 28 (cpr ((oI u 27 (nI nl)).2 5) ((oI u 27 (nI nl)).2 28) nl)).2 6) ((oA (oI u 27 (nI nl)) 28 (cpr ((oI u 27 (nI nl)).2 5) ((oI u 27 (nI nl)).2 28) nl)).2 29) nl)).2 30) nl)) 8 (nI 1)) 1 (upd ((oI (oA (oA (oA (oI u 27 (nI nl)) 28 (cpr ((oI u 27 (nI nl)).2 5) ((oI u 27 (nI nl)).2 28) nl)) 29 (cpr ((oA (oI u 27 (nI nl)) 28 (cpr ((oI u 27 (nI nl)).2 5) ((oI u 27 (nI nl)).2 28) nl)).2 6) ((oA (oI u 27 (nI nl)) 28 (cpr ((oI u 27 (nI nl)).2 5) ((oI u 27 (nI nl)).2 28) nl)).2 29) nl)) 30 (cpr ((oA (oA (oI u 27 (nI nl)) 28 (cpr ((oI u 27 (nI nl)).2 5) ((oI u 27 (nI nl)).2 28) nl)) 29 (cpr ((oA (oI u 27 (nI nl)) 28 (cpr ((oI u 27 (nI nl)).2 5) ((oI u 27 (nI nl)).2 28) nl)).2 6) ((oA (oI u 27 (nI nl)) 28 (cpr ((oI u 27 (nI nl)).2 5) ((oI u 27 (nI nl)).2 28) nl)).2 29) nl)).2 7) ((oA (oA (oI u 27 (nI nl)) 28 (cpr ((oI u 27 (nI nl)).2 5) ((oI u 27 (nI nl)).2 28) nl)) 29 (cpr ((oA (oI u 27 (nI nl)) 28 (cpr ((oI u 27 (nI nl)).2 5) ((oI u 27 (nI nl)).2 28) nl)).2 6) ((oA (oI u 27 (nI nl)) 28 (cpr ((oI u 27 (nI nl)).2 5) ((oI u 27 (nI nl)).2 28) nl)).2 29) nl)).2 30) nl)) 8 (nI 1)).2 1) nv x)) 2 (upd ((oA (oI (oA (oA (oA (oI u 27 (nI nl)) 28 (cpr ((oI u 27 (nI nl)).2 5) ((oI u 27 (nI nl)).2 28) nl)) 29 (cpr ((oA (oI u 27 (nI nl)) 28 (cpr ((oI u 27 (nI nl)).2 5) ((oI u 27 (nI nl)).2 28) nl)).2 6) ((oA (oI u 27 (nI nl)) 28 (cpr ((oI u 27 (nI nl)).2 5) ((oI u 27 (nI nl)).2 28) nl)).2 29) nl)) 30 (cpr ((oA (oA (oI u 27 (nI nl)) 28 (cpr ((oI u 27 (nI nl)).2 5) ((oI u 27 (nI nl)).2 28) nl)) 29 (cpr ((oA (oI u 27 (nI nl)) 28 (cpr ((oI u 27 (nI nl)).2 5) ((oI u 27 (nI nl)).2 28) nl)).2 6) ((oA (oI u 27 (nI nl)) 28 (cpr ((oI u 27 (nI nl)).2 5) ((oI u 27 (nI nl)).2 28) nl)).2 29) nl)).2 7) ((oA (oA (oI u 27 (nI nl)) 28 (cpr ((oI u 27 (nI nl)).2 5) ((oI u 27 (nI nl)).2 28) nl)) 29 (cpr ((oA (oI u 27 (nI nl)) 28 (cpr ((oI u 27 (nI nl)).2 5) ((oI u 27 (nI nl)).2 28) nl)).2 6) ((oA (oI u 27 (nI nl)) 28 (cpr ((oI u 27 (nI nl)).2 5) ((oI u 27 (nI nl)).2 28) nl)).2 29) nl)).2 30) nl)) 8 (nI 1)) 1 (upd ((oI (oA (oA (oA (oI u 27 (nI nl)) 28 (cpr ((oI u 27 (nI nl)).2 5) ((oI u 27 (nI nl)).2 28) nl)) 29 (cpr ((oA (oI u 27 (nI nl)) 28 (cpr ((oI u 27 (nI nl)).2 5) ((oI u 27 (nI nl)).2 28) nl)).2 6) ((oA (oI u 27 (nI nl)) 28 (cpr ((oI u 27 (nI nl)).2 5) ((oI u 27 (nI nl)).2 28) nl)).2 29) nl)) 30 (cpr ((oA (oA (oI u 27 (nI nl)) 28 (cpr ((oI u 27 (nI nl)).2 5) ((oI u 27 (nI nl)).2 28) nl)) 29 (cpr ((oA (oI u 27 (nI nl)) 28 (cpr ((oI u 27 (nI nl)).2 5) ((oI u 27 (nI nl)).2 28) nl)).2 6) ((oA (oI u 27 (nI nl)) 28 (cpr ((oI u 27 (nI nl)).2 5) ((oI u 27 (nI nl)).2 28) nl)).2 29) nl)).2 7) ((oA (oA (oI u 27 (nI nl)) 28 (cpr ((oI u 27 (nI nl)).2 5) ((oI u 27 (nI nl)).2 28) nl)) 29 (cpr ((oA (oI u 27 (nI nl)) 28 (cpr ((oI u 27 (nI nl)).2 5) ((oI u 27 (nI nl)).2 28) nl)).2 6) ((oA (oI u 27 (nI nl)) 28 (cpr ((oI u 27 (nI nl)).2 5) ((oI u 27 (nI nl)).2 28) nl)).2 29) nl)).2 30) nl)) 8 (nI 1)).2 1) nv x)).2 2) nv (nI 0))) lt sj) H := hP
  have hD : va_D A (mw G h (oA (oA (oI (oA (oA (oA (oI u 27 (nI nl)) 28 (cpr ((oI u 27 (nI nl)).2 5) ((oI u 27 (nI nl)).2 28) nl)) 29 (cpr ((oA (oI u 27 (nI nl)) 28 (cpr ((oI u 27 (nI nl)).2 5) ((oI u 27 (nI nl)).2 28) nl)).2 6) ((oA (oI u 27 (nI nl)) 28 (cpr ((oI u 27 (nI nl)).2 5) ((oI u 27 (nI nl)).2 28) nl)).2 29) nl)) 30 (cpr ((oA (oA (oI u 27 (nI nl)) 28 (cpr ((oI u 27 (nI nl)).2 5) ((oI u 27 (nI nl)).2 28) nl)) 29 (cpr ((oA (oI u 27 (nI nl)) 28 (cpr ((oI u 27 (nI nl)).2 5) ((oI u 27 (nI nl)).2 28) nl)).2 6) ((oA (oI u 27 (nI nl)) 28 (cpr ((oI u 27 (nI nl)).2 5) ((oI u 27 (nI nl)).2 28) nl)).2 29) nl)).2 7) ((oA (oA (oI u 27 (nI nl)) 28 (cpr ((oI u 27 (nI nl)).2 5) ((oI u 27 (nI nl)).2 28) nl)) 29 (cpr ((oA (oI u 27 (nI nl)) 28 (cpr ((oI u 27 (nI nl)).2 5) ((oI u 27 (nI nl)).2 28) nl)).2 6) ((oA (oI u 27 (nI nl)) 28 (cpr ((oI u 27 (nI nl)).2 5) ((oI u 27 (nI nl)).2 28) nl)).2 29) nl)).2 30) nl)) 8 (nI 1)) 1 (upd ((oI (oA (oA (oA (oI u 27 (nI nl)) 28 (cpr ((oI u 27 (nI nl)).2 5) ((oI u 27 (nI nl)).2 28) nl)) 29 (cpr ((oA (oI u 27 (nI nl)) 28 (cpr ((oI u 27 (nI nl)).2 5) ((oI u 27 (nI nl)).2 28) nl)).2 6) ((oA (oI u 27 (nI nl)) 28 (cpr ((oI u 27 (nI nl)).2 5) ((oI u 27 (nI nl)).2 28) nl)).2 29) nl)) 30 (cpr ((oA (oA (oI u 27 (nI nl)) 28 (cpr ((oI u 27 (nI nl)).2 5) ((oI u 27 (nI nl)).2 28) nl)) 29 (cpr ((oA (oI u 27 (nI nl)) 28 (cpr ((oI u 27 (nI nl)).2 5) ((oI u 27 (nI nl)).2 28) nl)).2 6) ((oA (oI u 27 (nI nl)) 28 (cpr ((oI u 27 (nI nl)).2 5) ((oI u 27 (nI nl)).2 28) nl)).2 29) nl)).2 7) ((oA (oA (oI u 27 (nI nl)) 28 (cpr ((oI u 27 (nI nl)).2 5) ((oI u 27 (nI nl)).2 28) nl)) 29 (cpr ((oA (oI u 27 (nI nl)) 28 (cpr ((oI u 27 (nI nl)).2 5) ((oI u 27 (nI nl)).2 28) nl)).2 6) ((oA (oI u 27 (nI nl)) 28 (cpr ((oI u 27 (nI nl)).2 5) ((oI u 27 (nI nl)).2 28) nl)).2 29) nl)).2 30) nl)) 8 (nI 1)).2 1) nv x)) 2 (upd ((oA (oI (oA (oA (oA (oI u 27 (nI nl)) 28 (cpr ((oI u 27 (nI nl)).2 5) ((oI u 27 (nI nl)).2 28) nl)) 29 (cpr ((oA (oI u 27 (nI nl)) 28 (cpr ((oI u 27 (nI nl)).2 5) ((oI u 27 (nI nl)).2 28) nl)).2 6) ((oA (oI u 27 (nI nl)) 28 (cpr ((oI u 27 (nI nl)).2 5) ((oI u 27 (nI nl)).2 28) nl)).2 29) nl)) 30 (cpr ((oA (oA (oI u 27 (nI nl)) 28 (cpr ((oI u 27 (nI nl)).2 5) ((oI u 27 (nI nl)).2 28) nl)) 29 (cpr ((oA (oI u 27 (nI nl)) 28 (cpr ((oI u 27 (nI nl)).2 5) ((oI u 27 (nI nl)).2 28) nl)).2 6) ((oA (oI u 27 (nI nl)) 28 (cpr ((oI u 27 (nI nl)).2 5) ((oI u 27 (nI nl)).2 28) nl)).2 29) nl)).2 7) ((oA (oA (oI u 27 (nI nl)) 28 (cpr ((oI u 27 (nI nl)).2 5) ((oI u 27 (nI nl)).2 28) nl)) 29 (cpr ((oA (oI u 27 (nI nl)) 28 (cpr ((oI u 27 (nI nl)).2 5) ((oI u 27 (nI nl)).2 28) nl)).2 6) ((oA (oI u 27 (nI nl)) 28 (cpr ((oI u 27 (nI nl)).2 5) ((oI u 27 (nI nl)).2 28) nl)).2 29) nl)).2 30) nl)) 8 (nI 1)) 1 (upd ((oI (oA (oA (oA (oI u 27 (nI nl)) 28 (cpr ((oI u 27 (nI nl)).2 5) ((oI u 27 (nI nl)).2 28) nl)) 29 (cpr ((oA (oI u 27 (nI nl)) 28 (cpr ((oI u 27 (nI nl)).2 5) ((oI u 27 (nI nl)).2 28) nl)).2 6) ((oA (oI u 27 (nI nl)) 28 (cpr ((oI u 27 (nI nl)).2 5) ((oI u 27 (nI nl)).2 28) nl)).2 29) nl)) 30 (cpr ((oA (oA (oI u 27 (nI nl)) 28 (cpr ((oI u 27 (nI nl)).2 5) ((oI u 27 (nI nl)).2 28) nl)) 29 (cpr ((oA (oI u 27 (nI nl)) 28 (cpr ((oI u 27 (nI nl)).2 5) ((oI u 27 (nI nl)).2 28) nl)).2 6) ((oA (oI u 27 (nI nl)) 28 (cpr ((oI u 27 (nI nl)).2 5) ((oI u 27 (nI nl)).2 28) nl)).2 29) nl)).2 7) ((oA (oA (oI u 27 (nI nl)) 28 (cpr ((oI u 27 (nI nl)).2 5) ((oI u 27 (nI nl)).2 28) nl)) 29 (cpr ((oA (oI u 27 (nI nl)) 28 (cpr ((oI u 27 (nI nl)).2 5) ((oI u 27 (nI nl)).2 28) nl)).2 6) ((oA (oI u 27 (nI nl)) 28 (cpr ((oI u 27 (nI nl)).2 5) ((oI u 27 (nI nl)).2 28) nl)).2 29) nl)).2 30) nl)) 8 (nI 1)).2 1) nv x)).2 2) nv (nI 0))) lt sj) := hD
  refine lv_aload_n hx hb dX5_openNow_78 rfl (lv_at hl 0 rfl) ?_
  refine va_get (D := gD G) (ci := 5) (v := .ref (h 3)) (C := RX5) (T := TX5) (N := 38) hx hb hts hiX5 hown hK hP 0 rfl rfl 3 (by decide) k16 (fun _ h9 => h9) rfl dX5_openNow_79 ?_
  refine lv_aload_n hx hb dX5_openNow_82 rfl (lv_at hl 0 rfl) ?_
  refine va_get (D := gD G) (ci := 5) (v := .int ((oA (oA (oI (oA (oA (oA (oI u 27 (nI nl)) 28 (cpr ((oI u 27 (nI nl)).2 5) ((oI u 27 (nI nl)).2 28) nl)) 29 (cpr ((oA (oI u 27 (nI nl)) 28 (cpr ((oI u 27 (nI nl)).2 5) ((oI u 27 (nI nl)).2 28) nl)).2 6) ((oA (oI u 27 (nI nl)) 28 (cpr ((oI u 27 (nI nl)).2 5) ((oI u 27 (nI nl)).2 28) nl)).2 29) nl)) 30 (cpr ((oA (oA (oI u 27 (nI nl)) 28 (cpr ((oI u 27 (nI nl)).2 5) ((oI u 27 (nI nl)).2 28) nl)) 29 (cpr ((oA (oI u 27 (nI nl)) 28 (cpr ((oI u 27 (nI nl)).2 5) ((oI u 27 (nI nl)).2 28) nl)).2 6) ((oA (oI u 27 (nI nl)) 28 (cpr ((oI u 27 (nI nl)).2 5) ((oI u 27 (nI nl)).2 28) nl)).2 29) nl)).2 7) ((oA (oA (oI u 27 (nI nl)) 28 (cpr ((oI u 27 (nI nl)).2 5) ((oI u 27 (nI nl)).2 28) nl)) 29 (cpr ((oA (oI u 27 (nI nl)) 28 (cpr ((oI u 27 (nI nl)).2 5) ((oI u 27 (nI nl)).2 28) nl)).2 6) ((oA (oI u 27 (nI nl)) 28 (cpr ((oI u 27 (nI nl)).2 5) ((oI u 27 (nI nl)).2 28) nl)).2 29) nl)).2 30) nl)) 8 (nI 1)) 1 (upd ((oI (oA (oA (oA (oI u 27 (nI nl)) 28 (cpr ((oI u 27 (nI nl)).2 5) ((oI u 27 (nI nl)).2 28) nl)) 29 (cpr ((oA (oI u 27 (nI nl)) 28 (cpr ((oI u 27 (nI nl)).2 5) ((oI u 27 (nI nl)).2 28) nl)).2 6) ((oA (oI u 27 (nI nl)) 28 (cpr ((oI u 27 (nI nl)).2 5) ((oI u 27 (nI nl)).2 28) nl)).2 29) nl)) 30 (cpr ((oA (oA (oI u 27 (nI nl)) 28 (cpr ((oI u 27 (nI nl)).2 5) ((oI u 27 (nI nl)).2 28) nl)) 29 (cpr ((oA (oI u 27 (nI nl)) 28 (cpr ((oI u 27 (nI nl)).2 5) ((oI u 27 (nI nl)).2 28) nl)).2 6) ((oA (oI u 27 (nI nl)) 28 (cpr ((oI u 27 (nI nl)).2 5) ((oI u 27 (nI nl)).2 28) nl)).2 29) nl)).2 7) ((oA (oA (oI u 27 (nI nl)) 28 (cpr ((oI u 27 (nI nl)).2 5) ((oI u 27 (nI nl)).2 28) nl)) 29 (cpr ((oA (oI u 27 (nI nl)) 28 (cpr ((oI u 27 (nI nl)).2 5) ((oI u 27 (nI nl)).2 28) nl)).2 6) ((oA (oI u 27 (nI nl)) 28 (cpr ((oI u 27 (nI nl)).2 5) ((oI u 27 (nI nl)).2 28) nl)).2 29) nl)).2 30) nl)) 8 (nI 1)).2 1) nv x)) 2 (upd ((oA (oI (oA (oA (oA (oI u 27 (nI nl)) 28 (cpr ((oI u 27 (nI nl)).2 5) ((oI u 27 (nI nl)).2 28) nl)) 29 (cpr ((oA (oI u 27 (nI nl)) 28 (cpr ((oI u 27 (nI nl)).2 5) ((oI u 27 (nI nl)).2 28) nl)).2 6) ((oA (oI u 27 (nI nl)) 28 (cpr ((oI u 27 (nI nl)).2 5) ((oI u 27 (nI nl)).2 28) nl)).2 29) nl)) 30 (cpr ((oA (oA (oI u 27 (nI nl)) 28 (cpr ((oI u 27 (nI nl)).2 5) ((oI u 27 (nI nl)).2 28) nl)) 29 (cpr ((oA (oI u 27 (nI nl)) 28 (cpr ((oI u 27 (nI nl)).2 5) ((oI u 27 (nI nl)).2 28) nl)).2 6) ((oA (oI u 27 (nI nl)) 28 (cpr ((oI u 27 (nI nl)).2 5) ((oI u 27 (nI nl)).2 28) nl)).2 29) nl)).2 7) ((oA (oA (oI u 27 (nI nl)) 28 (cpr ((oI u 27 (nI nl)).2 5) ((oI u 27 (nI nl)).2 28) nl)) 29 (cpr ((oA (oI u 27 (nI nl)) 28 (cpr ((oI u 27 (nI nl)).2 5) ((oI u 27 (nI nl)).2 28) nl)).2 6) ((oA (oI u 27 (nI nl)) 28 (cpr ((oI u 27 (nI nl)).2 5) ((oI u 27 (nI nl)).2 28) nl)).2 29) nl)).2 30) nl)) 8 (nI 1)) 1 (upd ((oI (oA (oA (oA (oI u 27 (nI nl)) 28 (cpr ((oI u 27 (nI nl)).2 5) ((oI u 27 (nI nl)).2 28) nl)) 29 (cpr ((oA (oI u 27 (nI nl)) 28 (cpr ((oI u 27 (nI nl)).2 5) ((oI u 27 (nI nl)).2 28) nl)).2 6) ((oA (oI u 27 (nI nl)) 28 (cpr ((oI u 27 (nI nl)).2 5) ((oI u 27 (nI nl)).2 28) nl)).2 29) nl)) 30 (cpr ((oA (oA (oI u 27 (nI nl)) 28 (cpr ((oI u 27 (nI nl)).2 5) ((oI u 27 (nI nl)).2 28) nl)) 29 (cpr ((oA (oI u 27 (nI nl)) 28 (cpr ((oI u 27 (nI nl)).2 5) ((oI u 27 (nI nl)).2 28) nl)).2 6) ((oA (oI u 27 (nI nl)) 28 (cpr ((oI u 27 (nI nl)).2 5) ((oI u 27 (nI nl)).2 28) nl)).2 29) nl)).2 7) ((oA (oA (oI u 27 (nI nl)) 28 (cpr ((oI u 27 (nI nl)).2 5) ((oI u 27 (nI nl)).2 28) nl)) 29 (cpr ((oA (oI u 27 (nI nl)) 28 (cpr ((oI u 27 (nI nl)).2 5) ((oI u 27 (nI nl)).2 28) nl)).2 6) ((oA (oI u 27 (nI nl)) 28 (cpr ((oI u 27 (nI nl)).2 5) ((oI u 27 (nI nl)).2 28) nl)).2 29) nl)).2 30) nl)) 8 (nI 1)).2 1) nv x)).2 2) nv (nI 0))).1 0)) (C := RX5) (T := TX5) (N := 38) hx hb hts hiX5 hown hK hP 0 rfl rfl 0 (by decide) k91 (fun _ h9 => h9) rfl dX5_openNow_83 ?_
  refine topE hnv ?_
  refine lv_iconst (v := nI 0) hx hb dX5_openNow_86 (by decide) ?_
  refine iastN (f := (oA (oA (oI (oA (oA (oA (oI u 27 (nI nl)) 28 (cpr ((oI u 27 (nI nl)).2 5) ((oI u 27 (nI nl)).2 28) nl)) 29 (cpr ((oA (oI u 27 (nI nl)) 28 (cpr ((oI u 27 (nI nl)).2 5) ((oI u 27 (nI nl)).2 28) nl)).2 6) ((oA (oI u 27 (nI nl)) 28 (cpr ((oI u 27 (nI nl)).2 5) ((oI u 27 (nI nl)).2 28) nl)).2 29) nl)) 30 (cpr ((oA (oA (oI u 27 (nI nl)) 28 (cpr ((oI u 27 (nI nl)).2 5) ((oI u 27 (nI nl)).2 28) nl)) 29 (cpr ((oA (oI u 27 (nI nl)) 28 (cpr ((oI u 27 (nI nl)).2 5) ((oI u 27 (nI nl)).2 28) nl)).2 6) ((oA (oI u 27 (nI nl)) 28 (cpr ((oI u 27 (nI nl)).2 5) ((oI u 27 (nI nl)).2 28) nl)).2 29) nl)).2 7) ((oA (oA (oI u 27 (nI nl)) 28 (cpr ((oI u 27 (nI nl)).2 5) ((oI u 27 (nI nl)).2 28) nl)) 29 (cpr ((oA (oI u 27 (nI nl)) 28 (cpr ((oI u 27 (nI nl)).2 5) ((oI u 27 (nI nl)).2 28) nl)).2 6) ((oA (oI u 27 (nI nl)) 28 (cpr ((oI u 27 (nI nl)).2 5) ((oI u 27 (nI nl)).2 28) nl)).2 29) nl)).2 30) nl)) 8 (nI 1)) 1 (upd ((oI (oA (oA (oA (oI u 27 (nI nl)) 28 (cpr ((oI u 27 (nI nl)).2 5) ((oI u 27 (nI nl)).2 28) nl)) 29 (cpr ((oA (oI u 27 (nI nl)) 28 (cpr ((oI u 27 (nI nl)).2 5) ((oI u 27 (nI nl)).2 28) nl)).2 6) ((oA (oI u 27 (nI nl)) 28 (cpr ((oI u 27 (nI nl)).2 5) ((oI u 27 (nI nl)).2 28) nl)).2 29) nl)) 30 (cpr ((oA (oA (oI u 27 (nI nl)) 28 (cpr ((oI u 27 (nI nl)).2 5) ((oI u 27 (nI nl)).2 28) nl)) 29 (cpr ((oA (oI u 27 (nI nl)) 28 (cpr ((oI u 27 (nI nl)).2 5) ((oI u 27 (nI nl)).2 28) nl)).2 6) ((oA (oI u 27 (nI nl)) 28 (cpr ((oI u 27 (nI nl)).2 5) ((oI u 27 (nI nl)).2 28) nl)).2 29) nl)).2 7) ((oA (oA (oI u 27 (nI nl)) 28 (cpr ((oI u 27 (nI nl)).2 5) ((oI u 27 (nI nl)).2 28) nl)) 29 (cpr ((oA (oI u 27 (nI nl)) 28 (cpr ((oI u 27 (nI nl)).2 5) ((oI u 27 (nI nl)).2 28) nl)).2 6) ((oA (oI u 27 (nI nl)) 28 (cpr ((oI u 27 (nI nl)).2 5) ((oI u 27 (nI nl)).2 28) nl)).2 29) nl)).2 30) nl)) 8 (nI 1)).2 1) nv x)) 2 (upd ((oA (oI (oA (oA (oA (oI u 27 (nI nl)) 28 (cpr ((oI u 27 (nI nl)).2 5) ((oI u 27 (nI nl)).2 28) nl)) 29 (cpr ((oA (oI u 27 (nI nl)) 28 (cpr ((oI u 27 (nI nl)).2 5) ((oI u 27 (nI nl)).2 28) nl)).2 6) ((oA (oI u 27 (nI nl)) 28 (cpr ((oI u 27 (nI nl)).2 5) ((oI u 27 (nI nl)).2 28) nl)).2 29) nl)) 30 (cpr ((oA (oA (oI u 27 (nI nl)) 28 (cpr ((oI u 27 (nI nl)).2 5) ((oI u 27 (nI nl)).2 28) nl)) 29 (cpr ((oA (oI u 27 (nI nl)) 28 (cpr ((oI u 27 (nI nl)).2 5) ((oI u 27 (nI nl)).2 28) nl)).2 6) ((oA (oI u 27 (nI nl)) 28 (cpr ((oI u 27 (nI nl)).2 5) ((oI u 27 (nI nl)).2 28) nl)).2 29) nl)).2 7) ((oA (oA (oI u 27 (nI nl)) 28 (cpr ((oI u 27 (nI nl)).2 5) ((oI u 27 (nI nl)).2 28) nl)) 29 (cpr ((oA (oI u 27 (nI nl)) 28 (cpr ((oI u 27 (nI nl)).2 5) ((oI u 27 (nI nl)).2 28) nl)).2 6) ((oA (oI u 27 (nI nl)) 28 (cpr ((oI u 27 (nI nl)).2 5) ((oI u 27 (nI nl)).2 28) nl)).2 29) nl)).2 30) nl)) 8 (nI 1)) 1 (upd ((oI (oA (oA (oA (oI u 27 (nI nl)) 28 (cpr ((oI u 27 (nI nl)).2 5) ((oI u 27 (nI nl)).2 28) nl)) 29 (cpr ((oA (oI u 27 (nI nl)) 28 (cpr ((oI u 27 (nI nl)).2 5) ((oI u 27 (nI nl)).2 28) nl)).2 6) ((oA (oI u 27 (nI nl)) 28 (cpr ((oI u 27 (nI nl)).2 5) ((oI u 27 (nI nl)).2 28) nl)).2 29) nl)) 30 (cpr ((oA (oA (oI u 27 (nI nl)) 28 (cpr ((oI u 27 (nI nl)).2 5) ((oI u 27 (nI nl)).2 28) nl)) 29 (cpr ((oA (oI u 27 (nI nl)) 28 (cpr ((oI u 27 (nI nl)).2 5) ((oI u 27 (nI nl)).2 28) nl)).2 6) ((oA (oI u 27 (nI nl)) 28 (cpr ((oI u 27 (nI nl)).2 5) ((oI u 27 (nI nl)).2 28) nl)).2 29) nl)).2 7) ((oA (oA (oI u 27 (nI nl)) 28 (cpr ((oI u 27 (nI nl)).2 5) ((oI u 27 (nI nl)).2 28) nl)) 29 (cpr ((oA (oI u 27 (nI nl)) 28 (cpr ((oI u 27 (nI nl)).2 5) ((oI u 27 (nI nl)).2 28) nl)).2 6) ((oA (oI u 27 (nI nl)) 28 (cpr ((oI u 27 (nI nl)).2 5) ((oI u 27 (nI nl)).2 28) nl)).2 29) nl)).2 30) nl)) 8 (nI 1)).2 1) nv x)).2 2) nv (nI 0))).2 3) (n := 25) (k := nv) hx hb hK hP hD hS 3 rfl rfl (by omega) dX5_openNow_87 (fun H locs hP hD hS => ?_)
  have hP : PP G (mw G h (oA (oA (oA (oI (oA (oA (oA (oI u 27 (nI nl)) 28 (cpr ((oI u 27 (nI nl)).2 5) ((oI u 27 (nI nl)).2 28) nl)) 29 (cpr ((oA (oI u 27 (nI nl)) 28 (cpr ((oI u 27 (nI nl)).2 5) ((oI u 27 (nI nl)).2 28) nl)).2 6) ((oA (oI u 27 (nI nl)) 28 (cpr ((oI u 27 (nI nl)).2 5) ((oI u 27 (nI nl)).2 28) nl)).2 29) nl)) 30 (cpr ((oA (oA (oI u 27 (nI nl)) 28 (cpr ((oI u 27 (nI nl)).2 5) ((oI u 27 (nI nl)).2 28) nl)) 29 (cpr ((oA (oI u 27 (nI nl)) 28 (cpr ((oI u 27 (nI nl)).2 5) ((oI u 27 (nI nl)).2 28) nl)).2 6) ((oA (oI u 27 (nI nl)) 28 (cpr ((oI u 27 (nI nl)).2 5) ((oI u 27 (nI nl)).2 28) nl)).2 29) nl)).2 7) ((oA (oA (oI u 27 (nI nl)) 28 (cpr ((oI u 27 (nI nl)).2 5) ((oI u 27 (nI nl)).2 28) nl)) 29 (cpr ((oA (oI u 27 (nI nl)) 28 (cpr ((oI u 27 (nI nl)).2 5) ((oI u 27 (nI nl)).2 28) nl)).2 6) ((oA (oI u 27 (nI nl)) 28 (cpr ((oI u 27 (nI nl)).2 5) ((oI u 27 (nI nl)).2 28) nl)).2 29) nl)).2 30) nl)) 8 (nI 1)) 1 (upd ((oI (oA (oA (oA (oI u 27 (nI nl)) 28 (cpr ((oI u 27 (nI nl)).2 5) ((oI u 27 (nI nl)).2 28) nl)) 29 (cpr ((oA (oI u 27 (nI nl)) 28 (cpr ((oI u 27 (nI nl)).2 5) ((oI u 27 (nI nl)).2 28) nl)).2 6) ((oA (oI u 27 (nI nl)) 28 (cpr ((oI u 27 (nI nl)).2 5) ((oI u 27 (nI nl)).2 28) nl)).2 29) nl)) 30 (cpr ((oA (oA (oI u 27 (nI nl)) 28 (cpr ((oI u 27 (nI nl)).2 5) ((oI u 27 (nI nl)).2 28) nl)) 29 (cpr ((oA (oI u 27 (nI nl)) 28 (cpr ((oI u 27 (nI nl)).2 5) ((oI u 27 (nI nl)).2 28) nl)).2 6) ((oA (oI u 27 (nI nl)) 28 (cpr ((oI u 27 (nI nl)).2 5) ((oI u 27 (nI nl)).2 28) nl)).2 29) nl)).2 7) ((oA (oA (oI u 27 (nI nl)) 28 (cpr ((oI u 27 (nI nl)).2 5) ((oI u 27 (nI nl)).2 28) nl)) 29 (cpr ((oA (oI u 27 (nI nl)) 28 (cpr ((oI u 27 (nI nl)).2 5) ((oI u 27 (nI nl)).2 28) nl)).2 6) ((oA (oI u 27 (nI nl)) 28 (cpr ((oI u 27 (nI nl)).2 5) ((oI u 27 (nI nl)).2 28) nl)).2 29) nl)).2 30) nl)) 8 (nI 1)).2 1) nv x)) 2 (upd ((oA (oI (oA (oA (oA (oI u 27 (nI nl)) 28 (cpr ((oI u 27 (nI nl)).2 5) ((oI u 27 (nI nl)).2 28) nl)) 29 (cpr ((oA (oI u 27 (nI nl)) 28 (cpr ((oI u 27 (nI nl)).2 5) ((oI u 27 (nI nl)).2 28) nl)).2 6) ((oA (oI u 27 (nI nl)) 28 (cpr ((oI u 27 (nI nl)).2 5) ((oI u 27 (nI nl)).2 28) nl)).2 29) nl)) 30 (cpr ((oA (oA (oI u 27 (nI nl)) 28 (cpr ((oI u 27 (nI nl)).2 5) ((oI u 27 (nI nl)).2 28) nl)) 29 (cpr ((oA (oI u 27 (nI nl)) 28 (cpr ((oI u 27 (nI nl)).2 5) ((oI u 27 (nI nl)).2 28) nl)).2 6) ((oA (oI u 27 (nI nl)) 28 (cpr ((oI u 27 (nI nl)).2 5) ((oI u 27 (nI nl)).2 28) nl)).2 29) nl)).2 7) ((oA (oA (oI u 27 (nI nl)) 28 (cpr ((oI u 27 (nI nl)).2 5) ((oI u 27 (nI nl)).2 28) nl)) 29 (cpr ((oA (oI u 27 (nI nl)) 28 (cpr ((oI u 27 (nI nl)).2 5) ((oI u 27 (nI nl)).2 28) nl)).2 6) ((oA (oI u 27 (nI nl)) 28 (cpr ((oI u 27 (nI nl)).2 5) ((oI u 27 (nI nl)).2 28) nl)).2 29) nl)).2 30) nl)) 8 (nI 1)) 1 (upd ((oI (oA (oA (oA (oI u 27 (nI nl)) 28 (cpr ((oI u 27 (nI nl)).2 5) ((oI u 27 (nI nl)).2 28) nl)) 29 (cpr ((oA (oI u 27 (nI nl)) 28 (cpr ((oI u 27 (nI nl)).2 5) ((oI u 27 (nI nl)).2 28) nl)).2 6) ((oA (oI u 27 (nI nl)) 28 (cpr ((oI u 27 (nI nl)).2 5) ((oI u 27 (nI nl)).2 28) nl)).2 29) nl)) 30 (cpr ((oA (oA (oI u 27 (nI nl)) 28 (cpr ((oI u 27 (nI nl)).2 5) ((oI u 27 (nI nl)).2 28) nl)) 29 (cpr ((oA (oI u 27 (nI nl)) 28 (cpr ((oI u 27 (nI nl)).2 5) ((oI u 27 (nI nl)).2 28) nl)).2 6) ((oA (oI u 27 (nI nl)) 28 (cpr ((oI u 27 (nI nl)).2 5) ((oI u 27 (nI nl)).2 28) nl)).2 29) nl)).2 7) ((oA (oA (oI u 27 (nI nl)) 28 (cpr ((oI u 27 (nI nl)).2 5) ((oI u 27 (nI nl)).2 28) nl)) 29 (cpr ((oA (oI u 27 (nI nl)) 28 (cpr ((oI u 27 (nI nl)).2 5) ((oI u 27 (nI nl)).2 28) nl)).2 6) ((oA (oI u 27 (nI nl)) 28 (cpr ((oI u 27 (nI nl)).2 5) ((oI u 27 (nI nl)).2 28) nl)).2 29) nl)).2 30) nl)) 8 (nI 1)).2 1) nv x)).2 2) nv (nI 0))) 3 (upd ((oA (oA (oI (oA (oA (oA (oI u 27 (nI nl)) 28 (cpr ((oI u 27 (nI nl)).2 5) ((oI u 27 (nI nl)).2 28) nl)) 29 (cpr ((oA (oI u 27 (nI nl)) 28 (cpr ((oI u 27 (nI nl)).2 5) ((oI u 27 (nI nl)).2 28) nl)).2 6) ((oA (oI u 27 (nI nl)) 28 (cpr ((oI u 27 (nI nl)).2 5) ((oI u 27 (nI nl)).2 28) nl)).2 29) nl)) 30 (cpr ((oA (oA (oI u 27 (nI nl)) 28 (cpr ((oI u 27 (nI nl)).2 5) ((oI u 27 (nI nl)).2 28) nl)) 29 (cpr ((oA (oI u 27 (nI nl)) 28 (cpr ((oI u 27 (nI nl)).2 5) ((oI u 27 (nI nl)).2 28) nl)).2 6) ((oA (oI u 27 (nI nl)) 28 (cpr ((oI u 27 (nI nl)).2 5) ((oI u 27 (nI nl)).2 28) nl)).2 29) nl)).2 7) ((oA (oA (oI u 27 (nI nl)) 28 (cpr ((oI u 27 (nI nl)).2 5) ((oI u 27 (nI nl)).2 28) nl)) 29 (cpr ((oA (oI u 27 (nI nl)) 28 (cpr ((oI u 27 (nI nl)).2 5) ((oI u 27 (nI nl)).2 28) nl)).2 6) ((oA (oI u 27 (nI nl)) 28 (cpr ((oI u 27 (nI nl)).2 5) ((oI u 27 (nI nl)).2 28) nl)).2 29) nl)).2 30) nl)) 8 (nI 1)) 1 (upd ((oI (oA (oA (oA (oI u 27 (nI nl)) 28 (cpr ((oI u 27 (nI nl)).2 5) ((oI u 27 (nI nl)).2 28) nl)) 29 (cpr ((oA (oI u 27 (nI nl)) 28 (cpr ((oI u 27 (nI nl)).2 5) ((oI u 27 (nI nl)).2 28) nl)).2 6) ((oA (oI u 27 (nI nl)) 28 (cpr ((oI u 27 (nI nl)).2 5) ((oI u 27 (nI nl)).2 28) nl)).2 29) nl)) 30 (cpr ((oA (oA (oI u 27 (nI nl)) 28 (cpr ((oI u 27 (nI nl)).2 5) ((oI u 27 (nI nl)).2 28) nl)) 29 (cpr ((oA (oI u 27 (nI nl)) 28 (cpr ((oI u 27 (nI nl)).2 5) ((oI u 27 (nI nl)).2 28) nl)).2 6) ((oA (oI u 27 (nI nl)) 28 (cpr ((oI u 27 (nI nl)).2 5) ((oI u 27 (nI nl)).2 28) nl)).2 29) nl)).2 7) ((oA (oA (oI u 27 (nI nl)) 28 (cpr ((oI u 27 (nI nl)).2 5) ((oI u 27 (nI nl)).2 28) nl)) 29 (cpr ((oA (oI u 27 (nI nl)) 28 (cpr ((oI u 27 (nI nl)).2 5) ((oI u 27 (nI nl)).2 28) nl)).2 6) ((oA (oI u 27 (nI nl)) 28 (cpr ((oI u 27 (nI nl)).2 5) ((oI u 27 (nI nl)).2 28) nl)).2 29) nl)).2 30) nl)) 8 (nI 1)).2 1) nv x)) 2 (upd ((oA (oI (oA (oA (oA (oI u 27 (nI nl)) 28 (cpr ((oI u 27 (nI nl)).2 5) ((oI u 27 (nI nl)).2 28) nl)) 29 (cpr ((oA (oI u 27 (nI nl)) 28 (cpr ((oI u 27 (nI nl)).2 5) ((oI u 27 (nI nl)).2 28) nl)).2 6) ((oA (oI u 27 (nI nl)) 28 (cpr ((oI u 27 (nI nl)).2 5) ((oI u 27 (nI nl)).2 28) nl)).2 29) nl)) 30 (cpr ((oA (oA (oI u 27 (nI nl)) 28 (cpr ((oI u 27 (nI nl)).2 5) ((oI u 27 (nI nl)).2 28) nl)) 29 (cpr ((oA (oI u 27 (nI nl)) 28 (cpr ((oI u 27 (nI nl)).2 5) ((oI u 27 (nI nl)).2 28) nl)).2 6) ((oA (oI u 27 (nI nl)) 28 (cpr ((oI u 27 (nI nl)).2 5) ((oI u 27 (nI nl)).2 28) nl)).2 29) nl)).2 7) ((oA (oA (oI u 27 (nI nl)) 28 (cpr ((oI u 27 (nI nl)).2 5) ((oI u 27 (nI nl)).2 28) nl)) 29 (cpr ((oA (oI u 27 (nI nl)) 28 (cpr ((oI u 27 (nI nl)).2 5) ((oI u 27 (nI nl)).2 28) nl)).2 6) ((oA (oI u 27 (nI nl)) 28 (cpr ((oI u 27 (nI nl)).2 5) ((oI u 27 (nI nl)).2 28) nl)).2 29) nl)).2 30) nl)) 8 (nI 1)) 1 (upd ((oI (oA (oA (oA (oI u 27 (nI nl)) 28 (cpr ((oI u 27 (nI nl)).2 5) ((oI u 27 (nI nl)).2 28) nl)) 29 (cpr ((oA (oI u 27 (nI nl)) 28 (cpr ((oI u 27 (nI nl)).2 5) ((oI u 27 (nI nl)).2 28) nl)).2 6) ((oA (oI u 27 (nI nl)) 28 (cpr ((oI u 27 (nI nl)).2 5) ((oI u 27 (nI nl)).2 28) nl)).2 29) nl)) 30 (cpr ((oA (oA (oI u 27 (nI nl)) 28 (cpr ((oI u 27 (nI nl)).2 5) ((oI u 27 (nI nl)).2 28) nl)) 29 (cpr ((oA (oI u 27 (nI nl)) 28 (cpr ((oI u 27 (nI nl)).2 5) ((oI u 27 (nI nl)).2 28) nl)).2 6) ((oA (oI u 27 (nI nl)) 28 (cpr ((oI u 27 (nI nl)).2 5) ((oI u 27 (nI nl)).2 28) nl)).2 29) nl)).2 7) ((oA (oA (oI u 27 (nI nl)) 28 (cpr ((oI u 27 (nI nl)).2 5) ((oI u 27 (nI nl)).2 28) nl)) 29 (cpr ((oA (oI u 27 (nI nl)) 28 (cpr ((oI u 27 (nI nl)).2 5) ((oI u 27 (nI nl)).2 28) nl)).2 6) ((oA (oI u 27 (nI nl)) 28 (cpr ((oI u 27 (nI nl)).2 5) ((oI u 27 (nI nl)).2 28) nl)).2 29) nl)).2 30) nl)) 8 (nI 1)).2 1) nv x)).2 2) nv (nI 0))).2 3) nv (nI 0))) lt sj) H := hP
  have hD : va_D A (mw G h (oA (oA (oA (oI (oA (oA (oA (oI u 27 (nI nl)) 28 (cpr ((oI u 27 (nI nl)).2 5) ((oI u 27 (nI nl)).2 28) nl)) 29 (cpr ((oA (oI u 27 (nI nl)) 28 (cpr ((oI u 27 (nI nl)).2 5) ((oI u 27 (nI nl)).2 28) nl)).2 6) ((oA (oI u 27 (nI nl)) 28 (cpr ((oI u 27 (nI nl)).2 5) ((oI u 27 (nI nl)).2 28) nl)).2 29) nl)) 30 (cpr ((oA (oA (oI u 27 (nI nl)) 28 (cpr ((oI u 27 (nI nl)).2 5) ((oI u 27 (nI nl)).2 28) nl)) 29 (cpr ((oA (oI u 27 (nI nl)) 28 (cpr ((oI u 27 (nI nl)).2 5) ((oI u 27 (nI nl)).2 28) nl)).2 6) ((oA (oI u 27 (nI nl)) 28 (cpr ((oI u 27 (nI nl)).2 5) ((oI u 27 (nI nl)).2 28) nl)).2 29) nl)).2 7) ((oA (oA (oI u 27 (nI nl)) 28 (cpr ((oI u 27 (nI nl)).2 5) ((oI u 27 (nI nl)).2 28) nl)) 29 (cpr ((oA (oI u 27 (nI nl)) 28 (cpr ((oI u 27 (nI nl)).2 5) ((oI u 27 (nI nl)).2 28) nl)).2 6) ((oA (oI u 27 (nI nl)) 28 (cpr ((oI u 27 (nI nl)).2 5) ((oI u 27 (nI nl)).2 28) nl)).2 29) nl)).2 30) nl)) 8 (nI 1)) 1 (upd ((oI (oA (oA (oA (oI u 27 (nI nl)) 28 (cpr ((oI u 27 (nI nl)).2 5) ((oI u 27 (nI nl)).2 28) nl)) 29 (cpr ((oA (oI u 27 (nI nl)) 28 (cpr ((oI u 27 (nI nl)).2 5) ((oI u 27 (nI nl)).2 28) nl)).2 6) ((oA (oI u 27 (nI nl)) 28 (cpr ((oI u 27 (nI nl)).2 5) ((oI u 27 (nI nl)).2 28) nl)).2 29) nl)) 30 (cpr ((oA (oA (oI u 27 (nI nl)) 28 (cpr ((oI u 27 (nI nl)).2 5) ((oI u 27 (nI nl)).2 28) nl)) 29 (cpr ((oA (oI u 27 (nI nl)) 28 (cpr ((oI u 27 (nI nl)).2 5) ((oI u 27 (nI nl)).2 28) nl)).2 6) ((oA (oI u 27 (nI nl)) 28 (cpr ((oI u 27 (nI nl)).2 5) ((oI u 27 (nI nl)).2 28) nl)).2 29) nl)).2 7) ((oA (oA (oI u 27 (nI nl)) 28 (cpr ((oI u 27 (nI nl)).2 5) ((oI u 27 (nI nl)).2 28) nl)) 29 (cpr ((oA (oI u 27 (nI nl)) 28 (cpr ((oI u 27 (nI nl)).2 5) ((oI u 27 (nI nl)).2 28) nl)).2 6) ((oA (oI u 27 (nI nl)) 28 (cpr ((oI u 27 (nI nl)).2 5) ((oI u 27 (nI nl)).2 28) nl)).2 29) nl)).2 30) nl)) 8 (nI 1)).2 1) nv x)) 2 (upd ((oA (oI (oA (oA (oA (oI u 27 (nI nl)) 28 (cpr ((oI u 27 (nI nl)).2 5) ((oI u 27 (nI nl)).2 28) nl)) 29 (cpr ((oA (oI u 27 (nI nl)) 28 (cpr ((oI u 27 (nI nl)).2 5) ((oI u 27 (nI nl)).2 28) nl)).2 6) ((oA (oI u 27 (nI nl)) 28 (cpr ((oI u 27 (nI nl)).2 5) ((oI u 27 (nI nl)).2 28) nl)).2 29) nl)) 30 (cpr ((oA (oA (oI u 27 (nI nl)) 28 (cpr ((oI u 27 (nI nl)).2 5) ((oI u 27 (nI nl)).2 28) nl)) 29 (cpr ((oA (oI u 27 (nI nl)) 28 (cpr ((oI u 27 (nI nl)).2 5) ((oI u 27 (nI nl)).2 28) nl)).2 6) ((oA (oI u 27 (nI nl)) 28 (cpr ((oI u 27 (nI nl)).2 5) ((oI u 27 (nI nl)).2 28) nl)).2 29) nl)).2 7) ((oA (oA (oI u 27 (nI nl)) 28 (cpr ((oI u 27 (nI nl)).2 5) ((oI u 27 (nI nl)).2 28) nl)) 29 (cpr ((oA (oI u 27 (nI nl)) 28 (cpr ((oI u 27 (nI nl)).2 5) ((oI u 27 (nI nl)).2 28) nl)).2 6) ((oA (oI u 27 (nI nl)) 28 (cpr ((oI u 27 (nI nl)).2 5) ((oI u 27 (nI nl)).2 28) nl)).2 29) nl)).2 30) nl)) 8 (nI 1)) 1 (upd ((oI (oA (oA (oA (oI u 27 (nI nl)) 28 (cpr ((oI u 27 (nI nl)).2 5) ((oI u 27 (nI nl)).2 28) nl)) 29 (cpr ((oA (oI u 27 (nI nl)) 28 (cpr ((oI u 27 (nI nl)).2 5) ((oI u 27 (nI nl)).2 28) nl)).2 6) ((oA (oI u 27 (nI nl)) 28 (cpr ((oI u 27 (nI nl)).2 5) ((oI u 27 (nI nl)).2 28) nl)).2 29) nl)) 30 (cpr ((oA (oA (oI u 27 (nI nl)) 28 (cpr ((oI u 27 (nI nl)).2 5) ((oI u 27 (nI nl)).2 28) nl)) 29 (cpr ((oA (oI u 27 (nI nl)) 28 (cpr ((oI u 27 (nI nl)).2 5) ((oI u 27 (nI nl)).2 28) nl)).2 6) ((oA (oI u 27 (nI nl)) 28 (cpr ((oI u 27 (nI nl)).2 5) ((oI u 27 (nI nl)).2 28) nl)).2 29) nl)).2 7) ((oA (oA (oI u 27 (nI nl)) 28 (cpr ((oI u 27 (nI nl)).2 5) ((oI u 27 (nI nl)).2 28) nl)) 29 (cpr ((oA (oI u 27 (nI nl)) 28 (cpr ((oI u 27 (nI nl)).2 5) ((oI u 27 (nI nl)).2 28) nl)).2 6) ((oA (oI u 27 (nI nl)) 28 (cpr ((oI u 27 (nI nl)).2 5) ((oI u 27 (nI nl)).2 28) nl)).2 29) nl)).2 30) nl)) 8 (nI 1)).2 1) nv x)).2 2) nv (nI 0))) 3 (upd ((oA (oA (oI (oA (oA (oA (oI u 27 (nI nl)) 28 (cpr ((oI u 27 (nI nl)).2 5) ((oI u 27 (nI nl)).2 28) nl)) 29 (cpr ((oA (oI u 27 (nI nl)) 28 (cpr ((oI u 27 (nI nl)).2 5) ((oI u 27 (nI nl)).2 28) nl)).2 6) ((oA (oI u 27 (nI nl)) 28 (cpr ((oI u 27 (nI nl)).2 5) ((oI u 27 (nI nl)).2 28) nl)).2 29) nl)) 30 (cpr ((oA (oA (oI u 27 (nI nl)) 28 (cpr ((oI u 27 (nI nl)).2 5) ((oI u 27 (nI nl)).2 28) nl)) 29 (cpr ((oA (oI u 27 (nI nl)) 28 (cpr ((oI u 27 (nI nl)).2 5) ((oI u 27 (nI nl)).2 28) nl)).2 6) ((oA (oI u 27 (nI nl)) 28 (cpr ((oI u 27 (nI nl)).2 5) ((oI u 27 (nI nl)).2 28) nl)).2 29) nl)).2 7) ((oA (oA (oI u 27 (nI nl)) 28 (cpr ((oI u 27 (nI nl)).2 5) ((oI u 27 (nI nl)).2 28) nl)) 29 (cpr ((oA (oI u 27 (nI nl)) 28 (cpr ((oI u 27 (nI nl)).2 5) ((oI u 27 (nI nl)).2 28) nl)).2 6) ((oA (oI u 27 (nI nl)) 28 (cpr ((oI u 27 (nI nl)).2 5) ((oI u 27 (nI nl)).2 28) nl)).2 29) nl)).2 30) nl)) 8 (nI 1)) 1 (upd ((oI (oA (oA (oA (oI u 27 (nI nl)) 28 (cpr ((oI u 27 (nI nl)).2 5) ((oI u 27 (nI nl)).2 28) nl)) 29 (cpr ((oA (oI u 27 (nI nl)) 28 (cpr ((oI u 27 (nI nl)).2 5) ((oI u 27 (nI nl)).2 28) nl)).2 6) ((oA (oI u 27 (nI nl)) 28 (cpr ((oI u 27 (nI nl)).2 5) ((oI u 27 (nI nl)).2 28) nl)).2 29) nl)) 30 (cpr ((oA (oA (oI u 27 (nI nl)) 28 (cpr ((oI u 27 (nI nl)).2 5) ((oI u 27 (nI nl)).2 28) nl)) 29 (cpr ((oA (oI u 27 (nI nl)) 28 (cpr ((oI u 27 (nI nl)).2 5) ((oI u 27 (nI nl)).2 28) nl)).2 6) ((oA (oI u 27 (nI nl)) 28 (cpr ((oI u 27 (nI nl)).2 5) ((oI u 27 (nI nl)).2 28) nl)).2 29) nl)).2 7) ((oA (oA (oI u 27 (nI nl)) 28 (cpr ((oI u 27 (nI nl)).2 5) ((oI u 27 (nI nl)).2 28) nl)) 29 (cpr ((oA (oI u 27 (nI nl)) 28 (cpr ((oI u 27 (nI nl)).2 5) ((oI u 27 (nI nl)).2 28) nl)).2 6) ((oA (oI u 27 (nI nl)) 28 (cpr ((oI u 27 (nI nl)).2 5) ((oI u 27 (nI nl)).2 28) nl)).2 29) nl)).2 30) nl)) 8 (nI 1)).2 1) nv x)) 2 (upd ((oA (oI (oA (oA (oA (oI u 27 (nI nl)) 28 (cpr ((oI u 27 (nI nl)).2 5) ((oI u 27 (nI nl)).2 28) nl)) 29 (cpr ((oA (oI u 27 (nI nl)) 28 (cpr ((oI u 27 (nI nl)).2 5) ((oI u 27 (nI nl)).2 28) nl)).2 6) ((oA (oI u 27 (nI nl)) 28 (cpr ((oI u 27 (nI nl)).2 5) ((oI u 27 (nI nl)).2 28) nl)).2 29) nl)) 30 (cpr ((oA (oA (oI u 27 (nI nl)) 28 (cpr ((oI u 27 (nI nl)).2 5) ((oI u 27 (nI nl)).2 28) nl)) 29 (cpr ((oA (oI u 27 (nI nl)) 28 (cpr ((oI u 27 (nI nl)).2 5) ((oI u 27 (nI nl)).2 28) nl)).2 6) ((oA (oI u 27 (nI nl)) 28 (cpr ((oI u 27 (nI nl)).2 5) ((oI u 27 (nI nl)).2 28) nl)).2 29) nl)).2 7) ((oA (oA (oI u 27 (nI nl)) 28 (cpr ((oI u 27 (nI nl)).2 5) ((oI u 27 (nI nl)).2 28) nl)) 29 (cpr ((oA (oI u 27 (nI nl)) 28 (cpr ((oI u 27 (nI nl)).2 5) ((oI u 27 (nI nl)).2 28) nl)).2 6) ((oA (oI u 27 (nI nl)) 28 (cpr ((oI u 27 (nI nl)).2 5) ((oI u 27 (nI nl)).2 28) nl)).2 29) nl)).2 30) nl)) 8 (nI 1)) 1 (upd ((oI (oA (oA (oA (oI u 27 (nI nl)) 28 (cpr ((oI u 27 (nI nl)).2 5) ((oI u 27 (nI nl)).2 28) nl)) 29 (cpr ((oA (oI u 27 (nI nl)) 28 (cpr ((oI u 27 (nI nl)).2 5) ((oI u 27 (nI nl)).2 28) nl)).2 6) ((oA (oI u 27 (nI nl)) 28 (cpr ((oI u 27 (nI nl)).2 5) ((oI u 27 (nI nl)).2 28) nl)).2 29) nl)) 30 (cpr ((oA (oA (oI u 27 (nI nl)) 28 (cpr ((oI u 27 (nI nl)).2 5) ((oI u 27 (nI nl)).2 28) nl)) 29 (cpr ((oA (oI u 27 (nI nl)) 28 (cpr ((oI u 27 (nI nl)).2 5) ((oI u 27 (nI nl)).2 28) nl)).2 6) ((oA (oI u 27 (nI nl)) 28 (cpr ((oI u 27 (nI nl)).2 5) ((oI u 27 (nI nl)).2 28) nl)).2 29) nl)).2 7) ((oA (oA (oI u 27 (nI nl)) 28 (cpr ((oI u 27 (nI nl)).2 5) ((oI u 27 (nI nl)).2 28) nl)) 29 (cpr ((oA (oI u 27 (nI nl)) 28 (cpr ((oI u 27 (nI nl)).2 5) ((oI u 27 (nI nl)).2 28) nl)).2 6) ((oA (oI u 27 (nI nl)) 28 (cpr ((oI u 27 (nI nl)).2 5) ((oI u 27 (nI nl)).2 28) nl)).2 29) nl)).2 30) nl)) 8 (nI 1)).2 1) nv x)).2 2) nv (nI 0))).2 3) nv (nI 0))) lt sj) := hD
  exact W.vret hx hb hr (fun t ht hW => ⟨⟨(oA (oA (oA (oI (oA (oA (oA (oI u 27 (nI nl)) 28 (cpr ((oI u 27 (nI nl)).2 5) ((oI u 27 (nI nl)).2 28) nl)) 29 (cpr ((oA (oI u 27 (nI nl)) 28 (cpr ((oI u 27 (nI nl)).2 5) ((oI u 27 (nI nl)).2 28) nl)).2 6) ((oA (oI u 27 (nI nl)) 28 (cpr ((oI u 27 (nI nl)).2 5) ((oI u 27 (nI nl)).2 28) nl)).2 29) nl)) 30 (cpr ((oA (oA (oI u 27 (nI nl)) 28 (cpr ((oI u 27 (nI nl)).2 5) ((oI u 27 (nI nl)).2 28) nl)) 29 (cpr ((oA (oI u 27 (nI nl)) 28 (cpr ((oI u 27 (nI nl)).2 5) ((oI u 27 (nI nl)).2 28) nl)).2 6) ((oA (oI u 27 (nI nl)) 28 (cpr ((oI u 27 (nI nl)).2 5) ((oI u 27 (nI nl)).2 28) nl)).2 29) nl)).2 7) ((oA (oA (oI u 27 (nI nl)) 28 (cpr ((oI u 27 (nI nl)).2 5) ((oI u 27 (nI nl)).2 28) nl)) 29 (cpr ((oA (oI u 27 (nI nl)) 28 (cpr ((oI u 27 (nI nl)).2 5) ((oI u 27 (nI nl)).2 28) nl)).2 6) ((oA (oI u 27 (nI nl)) 28 (cpr ((oI u 27 (nI nl)).2 5) ((oI u 27 (nI nl)).2 28) nl)).2 29) nl)).2 30) nl)) 8 (nI 1)) 1 (upd ((oI (oA (oA (oA (oI u 27 (nI nl)) 28 (cpr ((oI u 27 (nI nl)).2 5) ((oI u 27 (nI nl)).2 28) nl)) 29 (cpr ((oA (oI u 27 (nI nl)) 28 (cpr ((oI u 27 (nI nl)).2 5) ((oI u 27 (nI nl)).2 28) nl)).2 6) ((oA (oI u 27 (nI nl)) 28 (cpr ((oI u 27 (nI nl)).2 5) ((oI u 27 (nI nl)).2 28) nl)).2 29) nl)) 30 (cpr ((oA (oA (oI u 27 (nI nl)) 28 (cpr ((oI u 27 (nI nl)).2 5) ((oI u 27 (nI nl)).2 28) nl)) 29 (cpr ((oA (oI u 27 (nI nl)) 28 (cpr ((oI u 27 (nI nl)).2 5) ((oI u 27 (nI nl)).2 28) nl)).2 6) ((oA (oI u 27 (nI nl)) 28 (cpr ((oI u 27 (nI nl)).2 5) ((oI u 27 (nI nl)).2 28) nl)).2 29) nl)).2 7) ((oA (oA (oI u 27 (nI nl)) 28 (cpr ((oI u 27 (nI nl)).2 5) ((oI u 27 (nI nl)).2 28) nl)) 29 (cpr ((oA (oI u 27 (nI nl)) 28 (cpr ((oI u 27 (nI nl)).2 5) ((oI u 27 (nI nl)).2 28) nl)).2 6) ((oA (oI u 27 (nI nl)) 28 (cpr ((oI u 27 (nI nl)).2 5) ((oI u 27 (nI nl)).2 28) nl)).2 29) nl)).2 30) nl)) 8 (nI 1)).2 1) nv x)) 2 (upd ((oA (oI (oA (oA (oA (oI u 27 (nI nl)) 28 (cpr ((oI u 27 (nI nl)).2 5) ((oI u 27 (nI nl)).2 28) nl)) 29 (cpr ((oA (oI u 27 (nI nl)) 28 (cpr ((oI u 27 (nI nl)).2 5) ((oI u 27 (nI nl)).2 28) nl)).2 6) ((oA (oI u 27 (nI nl)) 28 (cpr ((oI u 27 (nI nl)).2 5) ((oI u 27 (nI nl)).2 28) nl)).2 29) nl)) 30 (cpr ((oA (oA (oI u 27 (nI nl)) 28 (cpr ((oI u 27 (nI nl)).2 5) ((oI u 27 (nI nl)).2 28) nl)) 29 (cpr ((oA (oI u 27 (nI nl)) 28 (cpr ((oI u 27 (nI nl)).2 5) ((oI u 27 (nI nl)).2 28) nl)).2 6) ((oA (oI u 27 (nI nl)) 28 (cpr ((oI u 27 (nI nl)).2 5) ((oI u 27 (nI nl)).2 28) nl)).2 29) nl)).2 7) ((oA (oA (oI u 27 (nI nl)) 28 (cpr ((oI u 27 (nI nl)).2 5) ((oI u 27 (nI nl)).2 28) nl)) 29 (cpr ((oA (oI u 27 (nI nl)) 28 (cpr ((oI u 27 (nI nl)).2 5) ((oI u 27 (nI nl)).2 28) nl)).2 6) ((oA (oI u 27 (nI nl)) 28 (cpr ((oI u 27 (nI nl)).2 5) ((oI u 27 (nI nl)).2 28) nl)).2 29) nl)).2 30) nl)) 8 (nI 1)) 1 (upd ((oI (oA (oA (oA (oI u 27 (nI nl)) 28 (cpr ((oI u 27 (nI nl)).2 5) ((oI u 27 (nI nl)).2 28) nl)) 29 (cpr ((oA (oI u 27 (nI nl)) 28 (cpr ((oI u 27 (nI nl)).2 5) ((oI u 27 (nI nl)).2 28) nl)).2 6) ((oA (oI u 27 (nI nl)) 28 (cpr ((oI u 27 (nI nl)).2 5) ((oI u 27 (nI nl)).2 28) nl)).2 29) nl)) 30 (cpr ((oA (oA (oI u 27 (nI nl)) 28 (cpr ((oI u 27 (nI nl)).2 5) ((oI u 27 (nI nl)).2 28) nl)) 29 (cpr ((oA (oI u 27 (nI nl)) 28 (cpr ((oI u 27 (nI nl)).2 5) ((oI u 27 (nI nl)).2 28) nl)).2 6) ((oA (oI u 27 (nI nl)) 28 (cpr ((oI u 27 (nI nl)).2 5) ((oI u 27 (nI nl)).2 28) nl)).2 29) nl)).2 7) ((oA (oA (oI u 27 (nI nl)) 28 (cpr ((oI u 27 (nI nl)).2 5) ((oI u 27 (nI nl)).2 28) nl)) 29 (cpr ((oA (oI u 27 (nI nl)) 28 (cpr ((oI u 27 (nI nl)).2 5) ((oI u 27 (nI nl)).2 28) nl)).2 6) ((oA (oI u 27 (nI nl)) 28 (cpr ((oI u 27 (nI nl)).2 5) ((oI u 27 (nI nl)).2 28) nl)).2 29) nl)).2 30) nl)) 8 (nI 1)).2 1) nv x)).2 2) nv (nI 0))) 3 (upd ((oA (oA (oI (oA (oA (oA (oI u 27 (nI nl)) 28 (cpr ((oI u 27 (nI nl)).2 5) ((oI u 27 (nI nl)).2 28) nl)) 29 (cpr ((oA (oI u 27 (nI nl)) 28 (cpr ((oI u 27 (nI nl)).2 5) ((oI u 27 (nI nl)).2 28) nl)).2 6) ((oA (oI u 27 (nI nl)) 28 (cpr ((oI u 27 (nI nl)).2 5) ((oI u 27 (nI nl)).2 28) nl)).2 29) nl)) 30 (cpr ((oA (oA (oI u 27 (nI nl)) 28 (cpr ((oI u 27 (nI nl)).2 5) ((oI u 27 (nI nl)).2 28) nl)) 29 (cpr ((oA (oI u 27 (nI nl)) 28 (cpr ((oI u 27 (nI nl)).2 5) ((oI u 27 (nI nl)).2 28) nl)).2 6) ((oA (oI u 27 (nI nl)) 28 (cpr ((oI u 27 (nI nl)).2 5) ((oI u 27 (nI nl)).2 28) nl)).2 29) nl)).2 7) ((oA (oA (oI u 27 (nI nl)) 28 (cpr ((oI u 27 (nI nl)).2 5) ((oI u 27 (nI nl)).2 28) nl)) 29 (cpr ((oA (oI u 27 (nI nl)) 28 (cpr ((oI u 27 (nI nl)).2 5) ((oI u 27 (nI nl)).2 28) nl)).2 6) ((oA (oI u 27 (nI nl)) 28 (cpr ((oI u 27 (nI nl)).2 5) ((oI u 27 (nI nl)).2 28) nl)).2 29) nl)).2 30) nl)) 8 (nI 1)) 1 (upd ((oI (oA (oA (oA (oI u 27 (nI nl)) 28 (cpr ((oI u 27 (nI nl)).2 5) ((oI u 27 (nI nl)).2 28) nl)) 29 (cpr ((oA (oI u 27 (nI nl)) 28 (cpr ((oI u 27 (nI nl)).2 5) ((oI u 27 (nI nl)).2 28) nl)).2 6) ((oA (oI u 27 (nI nl)) 28 (cpr ((oI u 27 (nI nl)).2 5) ((oI u 27 (nI nl)).2 28) nl)).2 29) nl)) 30 (cpr ((oA (oA (oI u 27 (nI nl)) 28 (cpr ((oI u 27 (nI nl)).2 5) ((oI u 27 (nI nl)).2 28) nl)) 29 (cpr ((oA (oI u 27 (nI nl)) 28 (cpr ((oI u 27 (nI nl)).2 5) ((oI u 27 (nI nl)).2 28) nl)).2 6) ((oA (oI u 27 (nI nl)) 28 (cpr ((oI u 27 (nI nl)).2 5) ((oI u 27 (nI nl)).2 28) nl)).2 29) nl)).2 7) ((oA (oA (oI u 27 (nI nl)) 28 (cpr ((oI u 27 (nI nl)).2 5) ((oI u 27 (nI nl)).2 28) nl)) 29 (cpr ((oA (oI u 27 (nI nl)) 28 (cpr ((oI u 27 (nI nl)).2 5) ((oI u 27 (nI nl)).2 28) nl)).2 6) ((oA (oI u 27 (nI nl)) 28 (cpr ((oI u 27 (nI nl)).2 5) ((oI u 27 (nI nl)).2 28) nl)).2 29) nl)).2 30) nl)) 8 (nI 1)).2 1) nv x)) 2 (upd ((oA (oI (oA (oA (oA (oI u 27 (nI nl)) 28 (cpr ((oI u 27 (nI nl)).2 5) ((oI u 27 (nI nl)).2 28) nl)) 29 (cpr ((oA (oI u 27 (nI nl)) 28 (cpr ((oI u 27 (nI nl)).2 5) ((oI u 27 (nI nl)).2 28) nl)).2 6) ((oA (oI u 27 (nI nl)) 28 (cpr ((oI u 27 (nI nl)).2 5) ((oI u 27 (nI nl)).2 28) nl)).2 29) nl)) 30 (cpr ((oA (oA (oI u 27 (nI nl)) 28 (cpr ((oI u 27 (nI nl)).2 5) ((oI u 27 (nI nl)).2 28) nl)) 29 (cpr ((oA (oI u 27 (nI nl)) 28 (cpr ((oI u 27 (nI nl)).2 5) ((oI u 27 (nI nl)).2 28) nl)).2 6) ((oA (oI u 27 (nI nl)) 28 (cpr ((oI u 27 (nI nl)).2 5) ((oI u 27 (nI nl)).2 28) nl)).2 29) nl)).2 7) ((oA (oA (oI u 27 (nI nl)) 28 (cpr ((oI u 27 (nI nl)).2 5) ((oI u 27 (nI nl)).2 28) nl)) 29 (cpr ((oA (oI u 27 (nI nl)) 28 (cpr ((oI u 27 (nI nl)).2 5) ((oI u 27 (nI nl)).2 28) nl)).2 6) ((oA (oI u 27 (nI nl)) 28 (cpr ((oI u 27 (nI nl)).2 5) ((oI u 27 (nI nl)).2 28) nl)).2 29) nl)).2 30) nl)) 8 (nI 1)) 1 (upd ((oI (oA (oA (oA (oI u 27 (nI nl)) 28 (cpr ((oI u 27 (nI nl)).2 5) ((oI u 27 (nI nl)).2 28) nl)) 29 (cpr ((oA (oI u 27 (nI nl)) 28 (cpr ((oI u 27 (nI nl)).2 5) ((oI u 27 (nI nl)).2 28) nl)).2 6) ((oA (oI u 27 (nI nl)) 28 (cpr ((oI u 27 (nI nl)).2 5) ((oI u 27 (nI nl)).2 28) nl)).2 29) nl)) 30 (cpr ((oA (oA (oI u 27 (nI nl)) 28 (cpr ((oI u 27 (nI nl)).2 5) ((oI u 27 (nI nl)).2 28) nl)) 29 (cpr ((oA (oI u 27 (nI nl)) 28 (cpr ((oI u 27 (nI nl)).2 5) ((oI u 27 (nI nl)).2 28) nl)).2 6) ((oA (oI u 27 (nI nl)) 28 (cpr ((oI u 27 (nI nl)).2 5) ((oI u 27 (nI nl)).2 28) nl)).2 29) nl)).2 7) ((oA (oA (oI u 27 (nI nl)) 28 (cpr ((oI u 27 (nI nl)).2 5) ((oI u 27 (nI nl)).2 28) nl)) 29 (cpr ((oA (oI u 27 (nI nl)) 28 (cpr ((oI u 27 (nI nl)).2 5) ((oI u 27 (nI nl)).2 28) nl)).2 6) ((oA (oI u 27 (nI nl)) 28 (cpr ((oI u 27 (nI nl)).2 5) ((oI u 27 (nI nl)).2 28) nl)).2 29) nl)).2 30) nl)) 8 (nI 1)).2 1) nv x)).2 2) nv (nI 0))).2 3) nv (nI 0)), lt, sj), rfl, rfl, show PP G (mw G h (oA (oA (oA (oI (oA (oA (oA (oI u 27 (nI nl)) 28 (cpr ((oI u 27 (nI nl)).2 5) ((oI u 27 (nI nl)).2 28) nl)) 29 (cpr ((oA (oI u 27 (nI nl)) 28 (cpr ((oI u 27 (nI nl)).2 5) ((oI u 27 (nI nl)).2 28) nl)).2 6) ((oA (oI u 27 (nI nl)) 28 (cpr ((oI u 27 (nI nl)).2 5) ((oI u 27 (nI nl)).2 28) nl)).2 29) nl)) 30 (cpr ((oA (oA (oI u 27 (nI nl)) 28 (cpr ((oI u 27 (nI nl)).2 5) ((oI u 27 (nI nl)).2 28) nl)) 29 (cpr ((oA (oI u 27 (nI nl)) 28 (cpr ((oI u 27 (nI nl)).2 5) ((oI u 27 (nI nl)).2 28) nl)).2 6) ((oA (oI u 27 (nI nl)) 28 (cpr ((oI u 27 (nI nl)).2 5) ((oI u 27 (nI nl)).2 28) nl)).2 29) nl)).2 7) ((oA (oA (oI u 27 (nI nl)) 28 (cpr ((oI u 27 (nI nl)).2 5) ((oI u 27 (nI nl)).2 28) nl)) 29 (cpr ((oA (oI u 27 (nI nl)) 28 (cpr ((oI u 27 (nI nl)).2 5) ((oI u 27 (nI nl)).2 28) nl)).2 6) ((oA (oI u 27 (nI nl)) 28 (cpr ((oI u 27 (nI nl)).2 5) ((oI u 27 (nI nl)).2 28) nl)).2 29) nl)).2 30) nl)) 8 (nI 1)) 1 (upd ((oI (oA (oA (oA (oI u 27 (nI nl)) 28 (cpr ((oI u 27 (nI nl)).2 5) ((oI u 27 (nI nl)).2 28) nl)) 29 (cpr ((oA (oI u 27 (nI nl)) 28 (cpr ((oI u 27 (nI nl)).2 5) ((oI u 27 (nI nl)).2 28) nl)).2 6) ((oA (oI u 27 (nI nl)) 28 (cpr ((oI u 27 (nI nl)).2 5) ((oI u 27 (nI nl)).2 28) nl)).2 29) nl)) 30 (cpr ((oA (oA (oI u 27 (nI nl)) 28 (cpr ((oI u 27 (nI nl)).2 5) ((oI u 27 (nI nl)).2 28) nl)) 29 (cpr ((oA (oI u 27 (nI nl)) 28 (cpr ((oI u 27 (nI nl)).2 5) ((oI u 27 (nI nl)).2 28) nl)).2 6) ((oA (oI u 27 (nI nl)) 28 (cpr ((oI u 27 (nI nl)).2 5) ((oI u 27 (nI nl)).2 28) nl)).2 29) nl)).2 7) ((oA (oA (oI u 27 (nI nl)) 28 (cpr ((oI u 27 (nI nl)).2 5) ((oI u 27 (nI nl)).2 28) nl)) 29 (cpr ((oA (oI u 27 (nI nl)) 28 (cpr ((oI u 27 (nI nl)).2 5) ((oI u 27 (nI nl)).2 28) nl)).2 6) ((oA (oI u 27 (nI nl)) 28 (cpr ((oI u 27 (nI nl)).2 5) ((oI u 27 (nI nl)).2 28) nl)).2 29) nl)).2 30) nl)) 8 (nI 1)).2 1) nv x)) 2 (upd ((oA (oI (oA (oA (oA (oI u 27 (nI nl)) 28 (cpr ((oI u 27 (nI nl)).2 5) ((oI u 27 (nI nl)).2 28) nl)) 29 (cpr ((oA (oI u 27 (nI nl)) 28 (cpr ((oI u 27 (nI nl)).2 5) ((oI u 27 (nI nl)).2 28) nl)).2 6) ((oA (oI u 27 (nI nl)) 28 (cpr ((oI u 27 (nI nl)).2 5) ((oI u 27 (nI nl)).2 28) nl)).2 29) nl)) 30 (cpr ((oA (oA (oI u 27 (nI nl)) 28 (cpr ((oI u 27 (nI nl)).2 5) ((oI u 27 (nI nl)).2 28) nl)) 29 (cpr ((oA (oI u 27 (nI nl)) 28 (cpr ((oI u 27 (nI nl)).2 5) ((oI u 27 (nI nl)).2 28) nl)).2 6) ((oA (oI u 27 (nI nl)) 28 (cpr ((oI u 27 (nI nl)).2 5) ((oI u 27 (nI nl)).2 28) nl)).2 29) nl)).2 7) ((oA (oA (oI u 27 (nI nl)) 28 (cpr ((oI u 27 (nI nl)).2 5) ((oI u 27 (nI nl)).2 28) nl)) 29 (cpr ((oA (oI u 27 (nI nl)) 28 (cpr ((oI u 27 (nI nl)).2 5) ((oI u 27 (nI nl)).2 28) nl)).2 6) ((oA (oI u 27 (nI nl)) 28 (cpr ((oI u 27 (nI nl)).2 5) ((oI u 27 (nI nl)).2 28) nl)).2 29) nl)).2 30) nl)) 8 (nI 1)) 1 (upd ((oI (oA (oA (oA (oI u 27 (nI nl)) 28 (cpr ((oI u 27 (nI nl)).2 5) ((oI u 27 (nI nl)).2 28) nl)) 29 (cpr ((oA (oI u 27 (nI nl)) 28 (cpr ((oI u 27 (nI nl)).2 5) ((oI u 27 (nI nl)).2 28) nl)).2 6) ((oA (oI u 27 (nI nl)) 28 (cpr ((oI u 27 (nI nl)).2 5) ((oI u 27 (nI nl)).2 28) nl)).2 29) nl)) 30 (cpr ((oA (oA (oI u 27 (nI nl)) 28 (cpr ((oI u 27 (nI nl)).2 5) ((oI u 27 (nI nl)).2 28) nl)) 29 (cpr ((oA (oI u 27 (nI nl)) 28 (cpr ((oI u 27 (nI nl)).2 5) ((oI u 27 (nI nl)).2 28) nl)).2 6) ((oA (oI u 27 (nI nl)) 28 (cpr ((oI u 27 (nI nl)).2 5) ((oI u 27 (nI nl)).2 28) nl)).2 29) nl)).2 7) ((oA (oA (oI u 27 (nI nl)) 28 (cpr ((oI u 27 (nI nl)).2 5) ((oI u 27 (nI nl)).2 28) nl)) 29 (cpr ((oA (oI u 27 (nI nl)) 28 (cpr ((oI u 27 (nI nl)).2 5) ((oI u 27 (nI nl)).2 28) nl)).2 6) ((oA (oI u 27 (nI nl)) 28 (cpr ((oI u 27 (nI nl)).2 5) ((oI u 27 (nI nl)).2 28) nl)).2 29) nl)).2 30) nl)) 8 (nI 1)).2 1) nv x)).2 2) nv (nI 0))) 3 (upd ((oA (oA (oI (oA (oA (oA (oI u 27 (nI nl)) 28 (cpr ((oI u 27 (nI nl)).2 5) ((oI u 27 (nI nl)).2 28) nl)) 29 (cpr ((oA (oI u 27 (nI nl)) 28 (cpr ((oI u 27 (nI nl)).2 5) ((oI u 27 (nI nl)).2 28) nl)).2 6) ((oA (oI u 27 (nI nl)) 28 (cpr ((oI u 27 (nI nl)).2 5) ((oI u 27 (nI nl)).2 28) nl)).2 29) nl)) 30 (cpr ((oA (oA (oI u 27 (nI nl)) 28 (cpr ((oI u 27 (nI nl)).2 5) ((oI u 27 (nI nl)).2 28) nl)) 29 (cpr ((oA (oI u 27 (nI nl)) 28 (cpr ((oI u 27 (nI nl)).2 5) ((oI u 27 (nI nl)).2 28) nl)).2 6) ((oA (oI u 27 (nI nl)) 28 (cpr ((oI u 27 (nI nl)).2 5) ((oI u 27 (nI nl)).2 28) nl)).2 29) nl)).2 7) ((oA (oA (oI u 27 (nI nl)) 28 (cpr ((oI u 27 (nI nl)).2 5) ((oI u 27 (nI nl)).2 28) nl)) 29 (cpr ((oA (oI u 27 (nI nl)) 28 (cpr ((oI u 27 (nI nl)).2 5) ((oI u 27 (nI nl)).2 28) nl)).2 6) ((oA (oI u 27 (nI nl)) 28 (cpr ((oI u 27 (nI nl)).2 5) ((oI u 27 (nI nl)).2 28) nl)).2 29) nl)).2 30) nl)) 8 (nI 1)) 1 (upd ((oI (oA (oA (oA (oI u 27 (nI nl)) 28 (cpr ((oI u 27 (nI nl)).2 5) ((oI u 27 (nI nl)).2 28) nl)) 29 (cpr ((oA (oI u 27 (nI nl)) 28 (cpr ((oI u 27 (nI nl)).2 5) ((oI u 27 (nI nl)).2 28) nl)).2 6) ((oA (oI u 27 (nI nl)) 28 (cpr ((oI u 27 (nI nl)).2 5) ((oI u 27 (nI nl)).2 28) nl)).2 29) nl)) 30 (cpr ((oA (oA (oI u 27 (nI nl)) 28 (cpr ((oI u 27 (nI nl)).2 5) ((oI u 27 (nI nl)).2 28) nl)) 29 (cpr ((oA (oI u 27 (nI nl)) 28 (cpr ((oI u 27 (nI nl)).2 5) ((oI u 27 (nI nl)).2 28) nl)).2 6) ((oA (oI u 27 (nI nl)) 28 (cpr ((oI u 27 (nI nl)).2 5) ((oI u 27 (nI nl)).2 28) nl)).2 29) nl)).2 7) ((oA (oA (oI u 27 (nI nl)) 28 (cpr ((oI u 27 (nI nl)).2 5) ((oI u 27 (nI nl)).2 28) nl)) 29 (cpr ((oA (oI u 27 (nI nl)) 28 (cpr ((oI u 27 (nI nl)).2 5) ((oI u 27 (nI nl)).2 28) nl)).2 6) ((oA (oI u 27 (nI nl)) 28 (cpr ((oI u 27 (nI nl)).2 5) ((oI u 27 (nI nl)).2 28) nl)).2 29) nl)).2 30) nl)) 8 (nI 1)).2 1) nv x)) 2 (upd ((oA (oI (oA (oA (oA (oI u 27 (nI nl)) 28 (cpr ((oI u 27 (nI nl)).2 5) ((oI u 27 (nI nl)).2 28) nl)) 29 (cpr ((oA (oI u 27 (nI nl)) 28 (cpr ((oI u 27 (nI nl)).2 5) ((oI u 27 (nI nl)).2 28) nl)).2 6) ((oA (oI u 27 (nI nl)) 28 (cpr ((oI u 27 (nI nl)).2 5) ((oI u 27 (nI nl)).2 28) nl)).2 29) nl)) 30 (cpr ((oA (oA (oI u 27 (nI nl)) 28 (cpr ((oI u 27 (nI nl)).2 5) ((oI u 27 (nI nl)).2 28) nl)) 29 (cpr ((oA (oI u 27 (nI nl)) 28 (cpr ((oI u 27 (nI nl)).2 5) ((oI u 27 (nI nl)).2 28) nl)).2 6) ((oA (oI u 27 (nI nl)) 28 (cpr ((oI u 27 (nI nl)).2 5) ((oI u 27 (nI nl)).2 28) nl)).2 29) nl)).2 7) ((oA (oA (oI u 27 (nI nl)) 28 (cpr ((oI u 27 (nI nl)).2 5) ((oI u 27 (nI nl)).2 28) nl)) 29 (cpr ((oA (oI u 27 (nI nl)) 28 (cpr ((oI u 27 (nI nl)).2 5) ((oI u 27 (nI nl)).2 28) nl)).2 6) ((oA (oI u 27 (nI nl)) 28 (cpr ((oI u 27 (nI nl)).2 5) ((oI u 27 (nI nl)).2 28) nl)).2 29) nl)).2 30) nl)) 8 (nI 1)) 1 (upd ((oI (oA (oA (oA (oI u 27 (nI nl)) 28 (cpr ((oI u 27 (nI nl)).2 5) ((oI u 27 (nI nl)).2 28) nl)) 29 (cpr ((oA (oI u 27 (nI nl)) 28 (cpr ((oI u 27 (nI nl)).2 5) ((oI u 27 (nI nl)).2 28) nl)).2 6) ((oA (oI u 27 (nI nl)) 28 (cpr ((oI u 27 (nI nl)).2 5) ((oI u 27 (nI nl)).2 28) nl)).2 29) nl)) 30 (cpr ((oA (oA (oI u 27 (nI nl)) 28 (cpr ((oI u 27 (nI nl)).2 5) ((oI u 27 (nI nl)).2 28) nl)) 29 (cpr ((oA (oI u 27 (nI nl)) 28 (cpr ((oI u 27 (nI nl)).2 5) ((oI u 27 (nI nl)).2 28) nl)).2 6) ((oA (oI u 27 (nI nl)) 28 (cpr ((oI u 27 (nI nl)).2 5) ((oI u 27 (nI nl)).2 28) nl)).2 29) nl)).2 7) ((oA (oA (oI u 27 (nI nl)) 28 (cpr ((oI u 27 (nI nl)).2 5) ((oI u 27 (nI nl)).2 28) nl)) 29 (cpr ((oA (oI u 27 (nI nl)) 28 (cpr ((oI u 27 (nI nl)).2 5) ((oI u 27 (nI nl)).2 28) nl)).2 6) ((oA (oI u 27 (nI nl)) 28 (cpr ((oI u 27 (nI nl)).2 5) ((oI u 27 (nI nl)).2 28) nl)).2 29) nl)).2 30) nl)) 8 (nI 1)).2 1) nv x)).2 2) nv (nI 0))).2 3) nv (nI 0))) lt sj) t.heap by rw [ht]; exact hP⟩, hS.F ht⟩) hS.2.2 dX5_openNow_88
set_option maxHeartbeats 1000000 in
set_option maxRecDepth 100000 in
theorem mt_X5_open (l : Launch) (G : gG) (h : Nat → Nat) (sz : Nat) (u : oS) (lt : Int64) (sj : Nat → Int64) (a : Int32) (nv nl nt nh : Nat) (hI : MIx u nv nl nt nh) : Met l yX5_open wsX5_open ({ frames := 2, cells := 0, slots := 0, locals := 46 }) (preW G (mw G h u lt sj) sz [.ref (h 0), .int a]) (va_Qi (fun (r : Int32) (v : oS × Int64 × (Nat → Int64)) => MIk u v.1) (fun v t => PP G (mw G h v.1 v.2.1 v.2.2) t.heap) (va_A (mw G h u lt sj) sz)) 0 0 (va_A (mw G h u lt sj) sz) := by
  refine Met.ofW (cc := cX5_open) (maxL := 2) (ret := (some .int)) (by decide) rfl ?_
  intro p e s m args below meth c s₁ B hml hv
  obtain ⟨ha, hsz, hP, hK, hN, hD0⟩ := hv
  subst ha
  have hx := B.exec
  have hb := B.bytes
  have hr := B.returns
  have hts := atoms_spec (ws := wsX5_open) B.pre
  have hown : s.vm.findClass RX5 = some m.cls := findClass_of_methodNamed B.named
  have hlocks := B.notSynchronized
  subst hsz
  have hD := hD0.self (sz := s.heap.size)
  generalize hAe : va_A (mw G h u lt sj) s.heap.size = A at hD ⊢
  have hA : ∀ q : Nat, s.heap.size ≤ q → A q := fun q h => by rw [← hAe]; exact Or.inr h
  clear hAe hD0
  have hS : va_S A s.heap s.heap [] := va_S.rf
  have hiX5 : ∀ w ∈ wsX50, w ∈ wsX5_open := by decide +kernel
  have k178 := hts (.fieldLink RX5 178 "WovenHistoryModel" "isOpen" "Z") (List.mem_of_getElem? (i := 2) rfl)
  have k91 := hts (.fieldLink RX5 91 "WovenHistoryModel" "versions" "I") (List.mem_of_getElem? (i := 4) rfl)
  have hl := lv_entry ([.ref (h 0), .int a]) (n := 2) (Nat.le_of_ble_eq_true rfl)
  rw [lg_entry_eq]
  generalize (lg_sl ([.ref (h 0), .int a]) ++ List.replicate (2 - (lg_sl ([.ref (h 0), .int a])).length) Slot.unset).toArray = ls at hl ⊢
  have hl : lv_has ls 2 [(0, .ref (h 0)), (1, .int a)] := hl
  have hI0 := hI
  obtain ⟨hnv, hnl, hnt, hnh, hnv24, hnl120, hnt240, hnh120, hop, hopn, hparV, hsz4, himg⟩ := hI
  refine lv_iload_n hx hb dX5_open_0 rfl (lv_at hl 1 rfl) ?_
  refine lv_iconst (v := (-1 : Int32)) hx hb dX5_open_1 (by decide) ?_
  refine lv_icmp_eq (tgt := 16) hx hb dX5_open_2 (by decide) (fun c2 => ?_) (fun c2 => ?_)
  · skip
    subst c2
    refine lv_aload_n hx hb dX5_open_16 rfl (lv_at hl 0 rfl) ?_
    refine va_get (D := gD G) (ci := 5) (v := .int (u.1 8)) (C := RX5) (T := TX5) (N := 38) hx hb hts hiX5 hown hK hP 0 rfl rfl 8 (by decide) k178 (fun _ h9 => h9) rfl dX5_open_17 ?_
    refine lv_if_eq (tgt := 26) hx hb dX5_open_20 (by decide) (fun c20 => ?_) (fun c20 => ?_)
    · skip
      refine lv_aload_n hx hb dX5_open_26 rfl (lv_at hl 0 rfl) ?_
      refine va_get (D := gD G) (ci := 5) (v := .int (u.1 0)) (C := RX5) (T := TX5) (N := 38) hx hb hts hiX5 hown hK hP 0 rfl rfl 0 (by decide) k91 (fun _ h9 => h9) rfl dX5_open_27 ?_
      refine topE hnv ?_
      refine lv_bipush (v := nI 24) hx hb dX5_open_30 (by decide) ?_
      refine lv_icmp_ne (tgt := 38) hx hb dX5_open_32 (by decide) (fun c32 => ?_) (fun c32 => ?_)
      · skip
        have n32 : ¬ (nv = 24) := fun q9 => c32 ((nI_eq (a := nv) (b := 24) (by omega) (by omega)).mpr q9)
        refine lv_aload_n hx hb dX5_open_38 rfl (lv_at hl 0 rfl) ?_
        refine lv_iload_n hx hb dX5_open_39 rfl (lv_at hl 1 rfl) ?_
        refine cXv (As := [.int (-1 : Int32)]) (rest := []) (S := oS × Int64 × (Nat → Int64)) (wa := mw G h u lt sj) (w1 := fun v => mw G h v.1 v.2.1 v.2.2) ⟨hx, hb, hml, hown, hts⟩ (mt_X5_openNow l G h _ u lt sj nv nl (-1 : Int32) (hnv) (hnl) (by first | assumption | omega) (by first | assumption | omega)) (cwV 1 hts gX5_open_X5_openNow rfl rfl rfl (by decide +kernel) ⟨Nat.le_of_ble_eq_true rfl, Nat.le_of_ble_eq_true rfl⟩) hK hN hP hD hS hA (fun _ => rfl) 0 5 rfl rfl rfl hl.1 rfl (Nat.le_of_ble_eq_true rfl) ⟨Nat.zero_le _, Nat.zero_le _⟩ dX5_open_40 (fun u40 H locs hw40 hP hD hS => ?_)
        obtain rfl := hw40
        have hP : PP G (mw G h (opU u nv nl (-1 : Int32)) lt sj) H := hP
        have hD : va_D A (mw G h (opU u nv nl (-1 : Int32)) lt sj) := hD
        refine lv_aload_n hx hb dX5_open_43 rfl (lv_at hl 0 rfl) ?_
        refine va_get (D := gD G) (ci := 5) (v := .int ((opU u nv nl (-1 : Int32)).1 0)) (C := RX5) (T := TX5) (N := 38) hx hb hts hiX5 hown hK hP 0 rfl rfl 0 (by decide) k91 (fun _ h9 => h9) rfl dX5_open_44 ?_
        refine topE hnv ?_
        exact W.iret (v := nI nv) hx hb hr (fun t ht hW => ⟨⟨nI nv, (opU u nv nl (-1 : Int32), lt, sj), rfl, ⟨⟨nv, nl, nt, nl, MIx_open hI0 (by omega) (by first | exact Or.inl rfl | exact Or.inr ⟨a1, by omega, rfl⟩)⟩, ⟨rfl, rfl, rfl⟩, rfl, rfl⟩, show PP G (mw G h (opU u nv nl (-1 : Int32)) lt sj) t.heap by rw [ht]; exact hP⟩, hS.F ht⟩) hS.2.2 dX5_open_47
      · skip
        have n32 : nv = 24 := (nI_eq (a := nv) (b := 24) (by omega) (by omega)).mp c32
        refine lv_ldc (v := (-1000000004 : Int32)) hx hb hown (hts (.constant RX5 104 (-1000000004)) (List.mem_of_getElem? (i := 5) rfl)) dX5_open_35 ?_
        exact W.iret (v := (-1000000004 : Int32)) hx hb hr (fun t ht hW => ⟨⟨(-1000000004 : Int32), (u, lt, sj), rfl, ⟨⟨nv, nl, nt, nh, hI0⟩, ⟨rfl, rfl, rfl⟩, rfl, rfl⟩, show PP G (mw G h u lt sj) t.heap by rw [ht]; exact hP⟩, hS.F ht⟩) hS.2.2 dX5_open_37
    · skip
      refine lv_ldc (v := (-1000000003 : Int32)) hx hb hown (hts (.constant RX5 225 (-1000000003)) (List.mem_of_getElem? (i := 3) rfl)) dX5_open_23 ?_
      exact W.iret (v := (-1000000003 : Int32)) hx hb hr (fun t ht hW => ⟨⟨(-1000000003 : Int32), (u, lt, sj), rfl, ⟨⟨nv, nl, nt, nh, hI0⟩, ⟨rfl, rfl, rfl⟩, rfl, rfl⟩, show PP G (mw G h u lt sj) t.heap by rw [ht]; exact hP⟩, hS.F ht⟩) hS.2.2 dX5_open_25
  · skip
    refine lv_aload_n hx hb dX5_open_5 rfl (lv_at hl 0 rfl) ?_
    refine lv_iload_n hx hb dX5_open_6 rfl (lv_at hl 1 rfl) ?_
    refine cRi (w := mw G h u lt sj) (As := [.int a]) (rest := []) ⟨hx, hb, hml, hown, hts⟩ (mt_X5_isVersion l G h u lt sj nv a (hnv) (by first | assumption | omega)) (cwV 1 hts gX5_open_X5_isVersion rfl rfl rfl (by decide +kernel) ⟨Nat.le_of_ble_eq_true rfl, Nat.le_of_ble_eq_true rfl⟩) hK hN hP 0 5 rfl rfl rfl hl.1 rfl (Nat.le_of_ble_eq_true rfl) ⟨Nat.zero_le _, Nat.zero_le _⟩ dX5_open_7 (fun r7 hw7 => ?_)
    rcases hw7 with ⟨rfl, a1, ha1, rfl⟩ | ⟨rfl, hna1⟩
    · skip
      refine lv_if_ne (tgt := 16) hx hb dX5_open_10 (by decide) (fun _ => ?_) (fun c9 => absurd c9 (by decide))
      refine lv_aload_n hx hb dX5_open_16 rfl (lv_at hl 0 rfl) ?_
      refine va_get (D := gD G) (ci := 5) (v := .int (u.1 8)) (C := RX5) (T := TX5) (N := 38) hx hb hts hiX5 hown hK hP 0 rfl rfl 8 (by decide) k178 (fun _ h9 => h9) rfl dX5_open_17 ?_
      refine lv_if_eq (tgt := 26) hx hb dX5_open_20 (by decide) (fun c20 => ?_) (fun c20 => ?_)
      · skip
        refine lv_aload_n hx hb dX5_open_26 rfl (lv_at hl 0 rfl) ?_
        refine va_get (D := gD G) (ci := 5) (v := .int (u.1 0)) (C := RX5) (T := TX5) (N := 38) hx hb hts hiX5 hown hK hP 0 rfl rfl 0 (by decide) k91 (fun _ h9 => h9) rfl dX5_open_27 ?_
        refine topE hnv ?_
        refine lv_bipush (v := nI 24) hx hb dX5_open_30 (by decide) ?_
        refine lv_icmp_ne (tgt := 38) hx hb dX5_open_32 (by decide) (fun c32 => ?_) (fun c32 => ?_)
        · skip
          have n32 : ¬ (nv = 24) := fun q9 => c32 ((nI_eq (a := nv) (b := 24) (by omega) (by omega)).mpr q9)
          refine lv_aload_n hx hb dX5_open_38 rfl (lv_at hl 0 rfl) ?_
          refine lv_iload_n hx hb dX5_open_39 rfl (lv_at hl 1 rfl) ?_
          refine cXv (As := [.int (nI a1)]) (rest := []) (S := oS × Int64 × (Nat → Int64)) (wa := mw G h u lt sj) (w1 := fun v => mw G h v.1 v.2.1 v.2.2) ⟨hx, hb, hml, hown, hts⟩ (mt_X5_openNow l G h _ u lt sj nv nl (nI a1) (hnv) (hnl) (by first | assumption | omega) (by first | assumption | omega)) (cwV 1 hts gX5_open_X5_openNow rfl rfl rfl (by decide +kernel) ⟨Nat.le_of_ble_eq_true rfl, Nat.le_of_ble_eq_true rfl⟩) hK hN hP hD hS hA (fun _ => rfl) 0 5 rfl rfl rfl hl.1 rfl (Nat.le_of_ble_eq_true rfl) ⟨Nat.zero_le _, Nat.zero_le _⟩ dX5_open_40 (fun u40 H locs hw40 hP hD hS => ?_)
          obtain rfl := hw40
          have hP : PP G (mw G h (opU u nv nl (nI a1)) lt sj) H := hP
          have hD : va_D A (mw G h (opU u nv nl (nI a1)) lt sj) := hD
          refine lv_aload_n hx hb dX5_open_43 rfl (lv_at hl 0 rfl) ?_
          refine va_get (D := gD G) (ci := 5) (v := .int ((opU u nv nl (nI a1)).1 0)) (C := RX5) (T := TX5) (N := 38) hx hb hts hiX5 hown hK hP 0 rfl rfl 0 (by decide) k91 (fun _ h9 => h9) rfl dX5_open_44 ?_
          refine topE hnv ?_
          exact W.iret (v := nI nv) hx hb hr (fun t ht hW => ⟨⟨nI nv, (opU u nv nl (nI a1), lt, sj), rfl, ⟨⟨nv, nl, nt, nl, MIx_open hI0 (by omega) (by first | exact Or.inl rfl | exact Or.inr ⟨a1, by omega, rfl⟩)⟩, ⟨rfl, rfl, rfl⟩, rfl, rfl⟩, show PP G (mw G h (opU u nv nl (nI a1)) lt sj) t.heap by rw [ht]; exact hP⟩, hS.F ht⟩) hS.2.2 dX5_open_47
        · skip
          have n32 : nv = 24 := (nI_eq (a := nv) (b := 24) (by omega) (by omega)).mp c32
          refine lv_ldc (v := (-1000000004 : Int32)) hx hb hown (hts (.constant RX5 104 (-1000000004)) (List.mem_of_getElem? (i := 5) rfl)) dX5_open_35 ?_
          exact W.iret (v := (-1000000004 : Int32)) hx hb hr (fun t ht hW => ⟨⟨(-1000000004 : Int32), (u, lt, sj), rfl, ⟨⟨nv, nl, nt, nh, hI0⟩, ⟨rfl, rfl, rfl⟩, rfl, rfl⟩, show PP G (mw G h u lt sj) t.heap by rw [ht]; exact hP⟩, hS.F ht⟩) hS.2.2 dX5_open_37
      · skip
        refine lv_ldc (v := (-1000000003 : Int32)) hx hb hown (hts (.constant RX5 225 (-1000000003)) (List.mem_of_getElem? (i := 3) rfl)) dX5_open_23 ?_
        exact W.iret (v := (-1000000003 : Int32)) hx hb hr (fun t ht hW => ⟨⟨(-1000000003 : Int32), (u, lt, sj), rfl, ⟨⟨nv, nl, nt, nh, hI0⟩, ⟨rfl, rfl, rfl⟩, rfl, rfl⟩, show PP G (mw G h u lt sj) t.heap by rw [ht]; exact hP⟩, hS.F ht⟩) hS.2.2 dX5_open_25
    · skip
      refine lv_if_ne (tgt := 16) hx hb dX5_open_10 (by decide) (fun c9 => absurd (by decide) c9) (fun _ => ?_)
      refine lv_ldc (v := (-1000000001 : Int32)) hx hb hown (hts (.constant RX5 216 (-1000000001)) (List.mem_of_getElem? (i := 1) rfl)) dX5_open_13 ?_
      exact W.iret (v := (-1000000001 : Int32)) hx hb hr (fun t ht hW => ⟨⟨(-1000000001 : Int32), (u, lt, sj), rfl, ⟨⟨nv, nl, nt, nh, hI0⟩, ⟨rfl, rfl, rfl⟩, rfl, rfl⟩, show PP G (mw G h u lt sj) t.heap by rw [ht]; exact hP⟩, hS.F ht⟩) hS.2.2 dX5_open_15
set_option maxHeartbeats 1000000 in
set_option maxRecDepth 100000 in
theorem mt_X5_include (l : Launch) (G : gG) (h : Nat → Nat) (sz : Nat) (u : oS) (lt : Int64) (sj : Nat → Int64) (a : Int32) (nv nl nt nh : Nat) (hI : MIx u nv nl nt nh) : Met l yX5_include wsX5_include ({ frames := 4, cells := 0, slots := 0, locals := 86 }) (preW G (mw G h u lt sj) sz [.ref (h 0), .int a]) (va_Qi (fun (r : Int32) (v : oS × Int64 × (Nat → Int64)) => MIk u v.1) (fun v t => PP G (mw G h v.1 v.2.1 v.2.2) t.heap) (va_A (mw G h u lt sj) sz)) 0 0 (va_A (mw G h u lt sj) sz) := by
  refine Met.ofW (cc := cX5_include) (maxL := 2) (ret := (some .int)) (by decide) rfl ?_
  intro p e s m args below meth c s₁ B hml hv
  obtain ⟨ha, hsz, hP, hK, hN, hD0⟩ := hv
  subst ha
  have hx := B.exec
  have hb := B.bytes
  have hr := B.returns
  have hts := atoms_spec (ws := wsX5_include) B.pre
  have hown : s.vm.findClass RX5 = some m.cls := findClass_of_methodNamed B.named
  have hlocks := B.notSynchronized
  subst hsz
  have hD := hD0.self (sz := s.heap.size)
  generalize hAe : va_A (mw G h u lt sj) s.heap.size = A at hD ⊢
  have hA : ∀ q : Nat, s.heap.size ≤ q → A q := fun q h => by rw [← hAe]; exact Or.inr h
  clear hAe hD0
  have hS : va_S A s.heap s.heap [] := va_S.rf
  have hiX5 : ∀ w ∈ wsX50, w ∈ wsX5_include := by decide +kernel
  have k178 := hts (.fieldLink RX5 178 "WovenHistoryModel" "isOpen" "Z") (List.mem_of_getElem? (i := 2) rfl)
  have k16 := hts (.fieldLink RX5 16 "WovenHistoryModel" "excludes" "[I") (List.mem_of_getElem? (i := 4) rfl)
  have k91 := hts (.fieldLink RX5 91 "WovenHistoryModel" "versions" "I") (List.mem_of_getElem? (i := 5) rfl)
  have k13 := hts (.fieldLink RX5 13 "WovenHistoryModel" "includes" "[I") (List.mem_of_getElem? (i := 6) rfl)
  have hl := lv_entry ([.ref (h 0), .int a]) (n := 2) (Nat.le_of_ble_eq_true rfl)
  rw [lg_entry_eq]
  generalize (lg_sl ([.ref (h 0), .int a]) ++ List.replicate (2 - (lg_sl ([.ref (h 0), .int a])).length) Slot.unset).toArray = ls at hl ⊢
  have hl : lv_has ls 2 [(0, .ref (h 0)), (1, .int a)] := hl
  have hI0 := hI
  obtain ⟨hnv, hnl, hnt, hnh, hnv24, hnl120, hnt240, hnh120, hop, hopn, hparV, hsz4, himg⟩ := hI
  refine lv_aload_n hx hb dX5_include_0 rfl (lv_at hl 0 rfl) ?_
  refine lv_iload_n hx hb dX5_include_1 rfl (lv_at hl 1 rfl) ?_
  refine cRi (w := mw G h u lt sj) (As := [.int a]) (rest := []) ⟨hx, hb, hml, hown, hts⟩ (mt_X5_isVersion l G h u lt sj nv a (hnv) (by first | assumption | omega)) (cwV 1 hts gX5_include_X5_isVersion rfl rfl rfl (by decide +kernel) ⟨Nat.le_of_ble_eq_true rfl, Nat.le_of_ble_eq_true rfl⟩) hK hN hP 0 5 rfl rfl rfl hl.1 rfl (Nat.le_of_ble_eq_true rfl) ⟨Nat.zero_le _, Nat.zero_le _⟩ dX5_include_2 (fun r2 hw2 => ?_)
  rcases hw2 with ⟨rfl, a1, ha1, rfl⟩ | ⟨rfl, hna1⟩
  · skip
    refine lv_if_ne (tgt := 11) hx hb dX5_include_5 (by decide) (fun _ => ?_) (fun c9 => absurd c9 (by decide))
    refine lv_aload_n hx hb dX5_include_11 rfl (lv_at hl 0 rfl) ?_
    refine va_get (D := gD G) (ci := 5) (v := .int (u.1 8)) (C := RX5) (T := TX5) (N := 38) hx hb hts hiX5 hown hK hP 0 rfl rfl 8 (by decide) k178 (fun _ h9 => h9) rfl dX5_include_12 ?_
    refine lv_if_eq (tgt := 26) hx hb dX5_include_15 (by decide) (fun c15 => ?_) (fun c15 => ?_)
    · skip
      refine lv_ldc (v := (-1000000003 : Int32)) hx hb hown (hts (.constant RX5 225 (-1000000003)) (List.mem_of_getElem? (i := 3) rfl)) dX5_include_26 ?_
      exact W.iret (v := (-1000000003 : Int32)) hx hb hr (fun t ht hW => ⟨⟨(-1000000003 : Int32), (u, lt, sj), rfl, ⟨⟨nv, nl, nt, nh, hI0⟩, ⟨rfl, rfl, rfl⟩, rfl, rfl⟩, show PP G (mw G h u lt sj) t.heap by rw [ht]; exact hP⟩, hS.F ht⟩) hS.2.2 dX5_include_28
    · skip
      obtain ⟨ho1, ho2⟩ := hopn (hop.resolve_left c15)
      refine lv_aload_n hx hb dX5_include_18 rfl (lv_at hl 0 rfl) ?_
      refine lv_iload_n hx hb dX5_include_19 rfl (lv_at hl 1 rfl) ?_
      have hP := mw_self26 hP
      have hD : va_D A (mw G h (oA u 26 (u.2 26)) lt sj) := mw_self26D hD
      refine cXi (As := [.int (nI a1)]) (rest := []) (S := oS × Int64 × (Nat → Int64)) (wa := mw G h (oA u 26 (u.2 26)) lt sj) (w1 := fun v => mw G h v.1 v.2.1 v.2.2) ⟨hx, hb, hml, hown, hts⟩ (mt_X5_isChange l G h _ u lt sj (u.2 26) nv (nI a1) (hnv) (by first | assumption | omega) (ho2)) (cwV 1 hts gX5_include_X5_isChange rfl rfl rfl (by decide +kernel) ⟨Nat.le_of_ble_eq_true rfl, Nat.le_of_ble_eq_true rfl⟩) hK hN hP hD hS hA (fun _ => rfl) 0 5 rfl rfl rfl hl.1 rfl (Nat.le_of_ble_eq_true rfl) ⟨Nat.zero_le _, Nat.zero_le _⟩ dX5_include_20 (fun r20 u20 H locs hw20 hP hD hS => ?_)
      rcases hw20 with ⟨g20, rfl, rfl⟩ | ⟨g20, rfl, rfl⟩
      · skip
        have hP : PP G (mw G h (oA u 26 g20) lt sj) H := hP
        have hD : va_D A (mw G h (oA u 26 g20) lt sj) := hD
        refine lv_if_eq (tgt := 29) hx hb dX5_include_23 (by decide) (fun c9 => absurd c9 (by decide)) (fun _ => ?_)
        refine lv_ldc (v := (-1000000003 : Int32)) hx hb hown (hts (.constant RX5 225 (-1000000003)) (List.mem_of_getElem? (i := 3) rfl)) dX5_include_26 ?_
        exact W.iret (v := (-1000000003 : Int32)) hx hb hr (fun t ht hW => ⟨⟨(-1000000003 : Int32), (oA u 26 g20, lt, sj), rfl, ⟨⟨nv, nl, nt, nh, hI0⟩, ⟨rfl, rfl, rfl⟩, rfl, rfl⟩, show PP G (mw G h (oA u 26 g20) lt sj) t.heap by rw [ht]; exact hP⟩, hS.F ht⟩) hS.2.2 dX5_include_28
      · skip
        have hP : PP G (mw G h (oA u 26 g20) lt sj) H := hP
        have hD : va_D A (mw G h (oA u 26 g20) lt sj) := hD
        refine lv_if_eq (tgt := 29) hx hb dX5_include_23 (by decide) (fun _ => ?_) (fun c9 => absurd (by decide) c9)
        refine lv_aload_n hx hb dX5_include_29 rfl (lv_at hl 0 rfl) ?_
        refine va_get (D := gD G) (ci := 5) (v := .ref (h 3)) (C := RX5) (T := TX5) (N := 38) hx hb hts hiX5 hown hK hP 0 rfl rfl 3 (by decide) k16 (fun _ h9 => h9) rfl dX5_include_30 ?_
        refine lv_aload_n hx hb dX5_include_33 rfl (lv_at hl 0 rfl) ?_
        refine va_get (D := gD G) (ci := 5) (v := .int (u.1 0)) (C := RX5) (T := TX5) (N := 38) hx hb hts hiX5 hown hK hP 0 rfl rfl 0 (by decide) k91 (fun _ h9 => h9) rfl dX5_include_34 ?_
        refine topE hnv ?_
        refine lv_dup2_11 hx hb dX5_include_37 rfl rfl ?_
        refine ialdN (f := u.2 3) (n := 25) (k := nv) hx hb hK hP 3 rfl rfl (by omega) dX5_include_38 ?_
        refine lv_iconst (v := nI 1) hx hb dX5_include_39 (by decide) ?_
        refine lv_iload_n hx hb dX5_include_40 rfl (lv_at hl 1 rfl) ?_
        refine lv_ishl hx hb dX5_include_41 ?_
        refine lv_iconst (v := (-1 : Int32)) hx hb dX5_include_42 (by decide) ?_
        refine lv_ixor hx hb dX5_include_43 ?_
        refine lv_iand hx hb dX5_include_44 ?_
        refine iastN (f := u.2 3) (n := 25) (k := nv) hx hb hK hP hD hS 3 rfl rfl (by omega) dX5_include_45 (fun H locs hP hD hS => ?_)
        have hP : PP G (mw G h (oA (oA u 26 g20) 3 (upd (u.2 3) nv (((u.2 3) nv) &&& (((nI 1) <<< ((nI a1) &&& 31)) ^^^ (-1 : Int32))))) lt sj) H := hP
        have hD : va_D A (mw G h (oA (oA u 26 g20) 3 (upd (u.2 3) nv (((u.2 3) nv) &&& (((nI 1) <<< ((nI a1) &&& 31)) ^^^ (-1 : Int32))))) lt sj) := hD
        refine lv_aload_n hx hb dX5_include_46 rfl (lv_at hl 0 rfl) ?_
        refine va_get (D := gD G) (ci := 5) (v := .ref (h 2)) (C := RX5) (T := TX5) (N := 38) hx hb hts hiX5 hown hK hP 0 rfl rfl 2 (by decide) k13 (fun _ h9 => h9) rfl dX5_include_47 ?_
        refine lv_aload_n hx hb dX5_include_50 rfl (lv_at hl 0 rfl) ?_
        refine va_get (D := gD G) (ci := 5) (v := .int ((oA (oA u 26 g20) 3 (upd (u.2 3) nv (((u.2 3) nv) &&& (((nI 1) <<< ((nI a1) &&& 31)) ^^^ (-1 : Int32))))).1 0)) (C := RX5) (T := TX5) (N := 38) hx hb hts hiX5 hown hK hP 0 rfl rfl 0 (by decide) k91 (fun _ h9 => h9) rfl dX5_include_51 ?_
        refine topE hnv ?_
        refine lv_dup2_11 hx hb dX5_include_54 rfl rfl ?_
        refine ialdN (f := (oA (oA u 26 g20) 3 (upd (u.2 3) nv (((u.2 3) nv) &&& (((nI 1) <<< ((nI a1) &&& 31)) ^^^ (-1 : Int32))))).2 2) (n := 25) (k := nv) hx hb hK hP 2 rfl rfl (by omega) dX5_include_55 ?_
        refine lv_iconst (v := nI 1) hx hb dX5_include_56 (by decide) ?_
        refine lv_iload_n hx hb dX5_include_57 rfl (lv_at hl 1 rfl) ?_
        refine lv_ishl hx hb dX5_include_58 ?_
        refine lv_ior hx hb dX5_include_59 ?_
        refine iastN (f := (oA (oA u 26 g20) 3 (upd (u.2 3) nv (((u.2 3) nv) &&& (((nI 1) <<< ((nI a1) &&& 31)) ^^^ (-1 : Int32))))).2 2) (n := 25) (k := nv) hx hb hK hP hD hS 2 rfl rfl (by omega) dX5_include_60 (fun H locs hP hD hS => ?_)
        have hP : PP G (mw G h (oA (oA (oA u 26 g20) 3 (upd (u.2 3) nv (((u.2 3) nv) &&& (((nI 1) <<< ((nI a1) &&& 31)) ^^^ (-1 : Int32))))) 2 (upd ((oA (oA u 26 g20) 3 (upd (u.2 3) nv (((u.2 3) nv) &&& (((nI 1) <<< ((nI a1) &&& 31)) ^^^ (-1 : Int32))))).2 2) nv ((((oA (oA u 26 g20) 3 (upd (u.2 3) nv (((u.2 3) nv) &&& (((nI 1) <<< ((nI a1) &&& 31)) ^^^ (-1 : Int32))))).2 2) nv) ||| ((nI 1) <<< ((nI a1) &&& 31))))) lt sj) H := hP
        have hD : va_D A (mw G h (oA (oA (oA u 26 g20) 3 (upd (u.2 3) nv (((u.2 3) nv) &&& (((nI 1) <<< ((nI a1) &&& 31)) ^^^ (-1 : Int32))))) 2 (upd ((oA (oA u 26 g20) 3 (upd (u.2 3) nv (((u.2 3) nv) &&& (((nI 1) <<< ((nI a1) &&& 31)) ^^^ (-1 : Int32))))).2 2) nv ((((oA (oA u 26 g20) 3 (upd (u.2 3) nv (((u.2 3) nv) &&& (((nI 1) <<< ((nI a1) &&& 31)) ^^^ (-1 : Int32))))).2 2) nv) ||| ((nI 1) <<< ((nI a1) &&& 31))))) lt sj) := hD
        refine lv_aload_n hx hb dX5_include_61 rfl (lv_at hl 0 rfl) ?_
        have hP := mw_self26 hP
        have hD : va_D A (mw G h (oA (oA (oA (oA u 26 g20) 3 (upd (u.2 3) nv (((u.2 3) nv) &&& (((nI 1) <<< ((nI a1) &&& 31)) ^^^ (-1 : Int32))))) 2 (upd ((oA (oA u 26 g20) 3 (upd (u.2 3) nv (((u.2 3) nv) &&& (((nI 1) <<< ((nI a1) &&& 31)) ^^^ (-1 : Int32))))).2 2) nv ((((oA (oA u 26 g20) 3 (upd (u.2 3) nv (((u.2 3) nv) &&& (((nI 1) <<< ((nI a1) &&& 31)) ^^^ (-1 : Int32))))).2 2) nv) ||| ((nI 1) <<< ((nI a1) &&& 31))))) 26 ((oA (oA (oA u 26 g20) 3 (upd (u.2 3) nv (((u.2 3) nv) &&& (((nI 1) <<< ((nI a1) &&& 31)) ^^^ (-1 : Int32))))) 2 (upd ((oA (oA u 26 g20) 3 (upd (u.2 3) nv (((u.2 3) nv) &&& (((nI 1) <<< ((nI a1) &&& 31)) ^^^ (-1 : Int32))))).2 2) nv ((((oA (oA u 26 g20) 3 (upd (u.2 3) nv (((u.2 3) nv) &&& (((nI 1) <<< ((nI a1) &&& 31)) ^^^ (-1 : Int32))))).2 2) nv) ||| ((nI 1) <<< ((nI a1) &&& 31))))).2 26)) lt sj) := mw_self26D hD
        refine cXi (As := []) (rest := []) (S := oS × Int64 × (Nat → Int64)) (wa := mw G h (oA (oA (oA (oA u 26 g20) 3 (upd (u.2 3) nv (((u.2 3) nv) &&& (((nI 1) <<< ((nI a1) &&& 31)) ^^^ (-1 : Int32))))) 2 (upd ((oA (oA u 26 g20) 3 (upd (u.2 3) nv (((u.2 3) nv) &&& (((nI 1) <<< ((nI a1) &&& 31)) ^^^ (-1 : Int32))))).2 2) nv ((((oA (oA u 26 g20) 3 (upd (u.2 3) nv (((u.2 3) nv) &&& (((nI 1) <<< ((nI a1) &&& 31)) ^^^ (-1 : Int32))))).2 2) nv) ||| ((nI 1) <<< ((nI a1) &&& 31))))) 26 ((oA (oA (oA u 26 g20) 3 (upd (u.2 3) nv (((u.2 3) nv) &&& (((nI 1) <<< ((nI a1) &&& 31)) ^^^ (-1 : Int32))))) 2 (upd ((oA (oA u 26 g20) 3 (upd (u.2 3) nv (((u.2 3) nv) &&& (((nI 1) <<< ((nI a1) &&& 31)) ^^^ (-1 : Int32))))).2 2) nv ((((oA (oA u 26 g20) 3 (upd (u.2 3) nv (((u.2 3) nv) &&& (((nI 1) <<< ((nI a1) &&& 31)) ^^^ (-1 : Int32))))).2 2) nv) ||| ((nI 1) <<< ((nI a1) &&& 31))))).2 26)) lt sj) (w1 := fun v => mw G h v.1 v.2.1 v.2.2) ⟨hx, hb, hml, hown, hts⟩ (mt_X5_openLines l G h _ (oA (oA (oA u 26 g20) 3 (upd (u.2 3) nv (((u.2 3) nv) &&& (((nI 1) <<< ((nI a1) &&& 31)) ^^^ (-1 : Int32))))) 2 (upd ((oA (oA u 26 g20) 3 (upd (u.2 3) nv (((u.2 3) nv) &&& (((nI 1) <<< ((nI a1) &&& 31)) ^^^ (-1 : Int32))))).2 2) nv ((((oA (oA u 26 g20) 3 (upd (u.2 3) nv (((u.2 3) nv) &&& (((nI 1) <<< ((nI a1) &&& 31)) ^^^ (-1 : Int32))))).2 2) nv) ||| ((nI 1) <<< ((nI a1) &&& 31))))) lt sj ((oA (oA (oA u 26 g20) 3 (upd (u.2 3) nv (((u.2 3) nv) &&& (((nI 1) <<< ((nI a1) &&& 31)) ^^^ (-1 : Int32))))) 2 (upd ((oA (oA u 26 g20) 3 (upd (u.2 3) nv (((u.2 3) nv) &&& (((nI 1) <<< ((nI a1) &&& 31)) ^^^ (-1 : Int32))))).2 2) nv ((((oA (oA u 26 g20) 3 (upd (u.2 3) nv (((u.2 3) nv) &&& (((nI 1) <<< ((nI a1) &&& 31)) ^^^ (-1 : Int32))))).2 2) nv) ||| ((nI 1) <<< ((nI a1) &&& 31))))).2 26) nv nl (hnv) (hnl) (by first | assumption | omega) (by first | assumption | omega) (ho2)) (cwV 0 hts gX5_include_X5_openLines rfl rfl rfl (by decide +kernel) ⟨Nat.le_of_ble_eq_true rfl, Nat.le_of_ble_eq_true rfl⟩) hK hN hP hD hS hA (fun _ => rfl) 0 5 rfl rfl rfl hl.1 rfl (Nat.le_of_ble_eq_true rfl) ⟨Nat.zero_le _, Nat.zero_le _⟩ dX5_include_62 (fun r62 u62 H locs hw62 hP hD hS => ?_)
        obtain ⟨g62, rfl, rfl⟩ := hw62
        have hP : PP G (mw G h (oA (oA (oA (oA u 26 g20) 3 (upd (u.2 3) nv (((u.2 3) nv) &&& (((nI 1) <<< ((nI a1) &&& 31)) ^^^ (-1 : Int32))))) 2 (upd ((oA (oA u 26 g20) 3 (upd (u.2 3) nv (((u.2 3) nv) &&& (((nI 1) <<< ((nI a1) &&& 31)) ^^^ (-1 : Int32))))).2 2) nv ((((oA (oA u 26 g20) 3 (upd (u.2 3) nv (((u.2 3) nv) &&& (((nI 1) <<< ((nI a1) &&& 31)) ^^^ (-1 : Int32))))).2 2) nv) ||| ((nI 1) <<< ((nI a1) &&& 31))))) 26 g62) lt sj) H := hP
        have hD : va_D A (mw G h (oA (oA (oA (oA u 26 g20) 3 (upd (u.2 3) nv (((u.2 3) nv) &&& (((nI 1) <<< ((nI a1) &&& 31)) ^^^ (-1 : Int32))))) 2 (upd ((oA (oA u 26 g20) 3 (upd (u.2 3) nv (((u.2 3) nv) &&& (((nI 1) <<< ((nI a1) &&& 31)) ^^^ (-1 : Int32))))).2 2) nv ((((oA (oA u 26 g20) 3 (upd (u.2 3) nv (((u.2 3) nv) &&& (((nI 1) <<< ((nI a1) &&& 31)) ^^^ (-1 : Int32))))).2 2) nv) ||| ((nI 1) <<< ((nI a1) &&& 31))))) 26 g62) lt sj) := hD
        have hc62 := cnt_le (sdb ((oA (oA (oA u 26 g20) 3 (upd (u.2 3) nv (((u.2 3) nv) &&& (((nI 1) <<< ((nI a1) &&& 31)) ^^^ (-1 : Int32))))) 2 (upd ((oA (oA u 26 g20) 3 (upd (u.2 3) nv (((u.2 3) nv) &&& (((nI 1) <<< ((nI a1) &&& 31)) ^^^ (-1 : Int32))))).2 2) nv ((((oA (oA u 26 g20) 3 (upd (u.2 3) nv (((u.2 3) nv) &&& (((nI 1) <<< ((nI a1) &&& 31)) ^^^ (-1 : Int32))))).2 2) nv) ||| ((nI 1) <<< ((nI a1) &&& 31))))).2 6) ((oA (oA (oA u 26 g20) 3 (upd (u.2 3) nv (((u.2 3) nv) &&& (((nI 1) <<< ((nI a1) &&& 31)) ^^^ (-1 : Int32))))) 2 (upd ((oA (oA u 26 g20) 3 (upd (u.2 3) nv (((u.2 3) nv) &&& (((nI 1) <<< ((nI a1) &&& 31)) ^^^ (-1 : Int32))))).2 2) nv ((((oA (oA u 26 g20) 3 (upd (u.2 3) nv (((u.2 3) nv) &&& (((nI 1) <<< ((nI a1) &&& 31)) ^^^ (-1 : Int32))))).2 2) nv) ||| ((nI 1) <<< ((nI a1) &&& 31))))).2 7) (chV ((oA (oA (oA u 26 g20) 3 (upd (u.2 3) nv (((u.2 3) nv) &&& (((nI 1) <<< ((nI a1) &&& 31)) ^^^ (-1 : Int32))))) 2 (upd ((oA (oA u 26 g20) 3 (upd (u.2 3) nv (((u.2 3) nv) &&& (((nI 1) <<< ((nI a1) &&& 31)) ^^^ (-1 : Int32))))).2 2) nv ((((oA (oA u 26 g20) 3 (upd (u.2 3) nv (((u.2 3) nv) &&& (((nI 1) <<< ((nI a1) &&& 31)) ^^^ (-1 : Int32))))).2 2) nv) ||| ((nI 1) <<< ((nI a1) &&& 31))))).2 1) ((oA (oA (oA u 26 g20) 3 (upd (u.2 3) nv (((u.2 3) nv) &&& (((nI 1) <<< ((nI a1) &&& 31)) ^^^ (-1 : Int32))))) 2 (upd ((oA (oA u 26 g20) 3 (upd (u.2 3) nv (((u.2 3) nv) &&& (((nI 1) <<< ((nI a1) &&& 31)) ^^^ (-1 : Int32))))).2 2) nv ((((oA (oA u 26 g20) 3 (upd (u.2 3) nv (((u.2 3) nv) &&& (((nI 1) <<< ((nI a1) &&& 31)) ^^^ (-1 : Int32))))).2 2) nv) ||| ((nI 1) <<< ((nI a1) &&& 31))))).2 2) ((oA (oA (oA u 26 g20) 3 (upd (u.2 3) nv (((u.2 3) nv) &&& (((nI 1) <<< ((nI a1) &&& 31)) ^^^ (-1 : Int32))))) 2 (upd ((oA (oA u 26 g20) 3 (upd (u.2 3) nv (((u.2 3) nv) &&& (((nI 1) <<< ((nI a1) &&& 31)) ^^^ (-1 : Int32))))).2 2) nv ((((oA (oA u 26 g20) 3 (upd (u.2 3) nv (((u.2 3) nv) &&& (((nI 1) <<< ((nI a1) &&& 31)) ^^^ (-1 : Int32))))).2 2) nv) ||| ((nI 1) <<< ((nI a1) &&& 31))))).2 3) (nI nv))) nl
        exact W.iret (v := nI (cnt (sdb ((oA (oA (oA u 26 g20) 3 (upd (u.2 3) nv (((u.2 3) nv) &&& (((nI 1) <<< ((nI a1) &&& 31)) ^^^ (-1 : Int32))))) 2 (upd ((oA (oA u 26 g20) 3 (upd (u.2 3) nv (((u.2 3) nv) &&& (((nI 1) <<< ((nI a1) &&& 31)) ^^^ (-1 : Int32))))).2 2) nv ((((oA (oA u 26 g20) 3 (upd (u.2 3) nv (((u.2 3) nv) &&& (((nI 1) <<< ((nI a1) &&& 31)) ^^^ (-1 : Int32))))).2 2) nv) ||| ((nI 1) <<< ((nI a1) &&& 31))))).2 6) ((oA (oA (oA u 26 g20) 3 (upd (u.2 3) nv (((u.2 3) nv) &&& (((nI 1) <<< ((nI a1) &&& 31)) ^^^ (-1 : Int32))))) 2 (upd ((oA (oA u 26 g20) 3 (upd (u.2 3) nv (((u.2 3) nv) &&& (((nI 1) <<< ((nI a1) &&& 31)) ^^^ (-1 : Int32))))).2 2) nv ((((oA (oA u 26 g20) 3 (upd (u.2 3) nv (((u.2 3) nv) &&& (((nI 1) <<< ((nI a1) &&& 31)) ^^^ (-1 : Int32))))).2 2) nv) ||| ((nI 1) <<< ((nI a1) &&& 31))))).2 7) (chV ((oA (oA (oA u 26 g20) 3 (upd (u.2 3) nv (((u.2 3) nv) &&& (((nI 1) <<< ((nI a1) &&& 31)) ^^^ (-1 : Int32))))) 2 (upd ((oA (oA u 26 g20) 3 (upd (u.2 3) nv (((u.2 3) nv) &&& (((nI 1) <<< ((nI a1) &&& 31)) ^^^ (-1 : Int32))))).2 2) nv ((((oA (oA u 26 g20) 3 (upd (u.2 3) nv (((u.2 3) nv) &&& (((nI 1) <<< ((nI a1) &&& 31)) ^^^ (-1 : Int32))))).2 2) nv) ||| ((nI 1) <<< ((nI a1) &&& 31))))).2 1) ((oA (oA (oA u 26 g20) 3 (upd (u.2 3) nv (((u.2 3) nv) &&& (((nI 1) <<< ((nI a1) &&& 31)) ^^^ (-1 : Int32))))) 2 (upd ((oA (oA u 26 g20) 3 (upd (u.2 3) nv (((u.2 3) nv) &&& (((nI 1) <<< ((nI a1) &&& 31)) ^^^ (-1 : Int32))))).2 2) nv ((((oA (oA u 26 g20) 3 (upd (u.2 3) nv (((u.2 3) nv) &&& (((nI 1) <<< ((nI a1) &&& 31)) ^^^ (-1 : Int32))))).2 2) nv) ||| ((nI 1) <<< ((nI a1) &&& 31))))).2 2) ((oA (oA (oA u 26 g20) 3 (upd (u.2 3) nv (((u.2 3) nv) &&& (((nI 1) <<< ((nI a1) &&& 31)) ^^^ (-1 : Int32))))) 2 (upd ((oA (oA u 26 g20) 3 (upd (u.2 3) nv (((u.2 3) nv) &&& (((nI 1) <<< ((nI a1) &&& 31)) ^^^ (-1 : Int32))))).2 2) nv ((((oA (oA u 26 g20) 3 (upd (u.2 3) nv (((u.2 3) nv) &&& (((nI 1) <<< ((nI a1) &&& 31)) ^^^ (-1 : Int32))))).2 2) nv) ||| ((nI 1) <<< ((nI a1) &&& 31))))).2 3) (nI nv))) nl)) hx hb hr (fun t ht hW => ⟨⟨nI (cnt (sdb ((oA (oA (oA u 26 g20) 3 (upd (u.2 3) nv (((u.2 3) nv) &&& (((nI 1) <<< ((nI a1) &&& 31)) ^^^ (-1 : Int32))))) 2 (upd ((oA (oA u 26 g20) 3 (upd (u.2 3) nv (((u.2 3) nv) &&& (((nI 1) <<< ((nI a1) &&& 31)) ^^^ (-1 : Int32))))).2 2) nv ((((oA (oA u 26 g20) 3 (upd (u.2 3) nv (((u.2 3) nv) &&& (((nI 1) <<< ((nI a1) &&& 31)) ^^^ (-1 : Int32))))).2 2) nv) ||| ((nI 1) <<< ((nI a1) &&& 31))))).2 6) ((oA (oA (oA u 26 g20) 3 (upd (u.2 3) nv (((u.2 3) nv) &&& (((nI 1) <<< ((nI a1) &&& 31)) ^^^ (-1 : Int32))))) 2 (upd ((oA (oA u 26 g20) 3 (upd (u.2 3) nv (((u.2 3) nv) &&& (((nI 1) <<< ((nI a1) &&& 31)) ^^^ (-1 : Int32))))).2 2) nv ((((oA (oA u 26 g20) 3 (upd (u.2 3) nv (((u.2 3) nv) &&& (((nI 1) <<< ((nI a1) &&& 31)) ^^^ (-1 : Int32))))).2 2) nv) ||| ((nI 1) <<< ((nI a1) &&& 31))))).2 7) (chV ((oA (oA (oA u 26 g20) 3 (upd (u.2 3) nv (((u.2 3) nv) &&& (((nI 1) <<< ((nI a1) &&& 31)) ^^^ (-1 : Int32))))) 2 (upd ((oA (oA u 26 g20) 3 (upd (u.2 3) nv (((u.2 3) nv) &&& (((nI 1) <<< ((nI a1) &&& 31)) ^^^ (-1 : Int32))))).2 2) nv ((((oA (oA u 26 g20) 3 (upd (u.2 3) nv (((u.2 3) nv) &&& (((nI 1) <<< ((nI a1) &&& 31)) ^^^ (-1 : Int32))))).2 2) nv) ||| ((nI 1) <<< ((nI a1) &&& 31))))).2 1) ((oA (oA (oA u 26 g20) 3 (upd (u.2 3) nv (((u.2 3) nv) &&& (((nI 1) <<< ((nI a1) &&& 31)) ^^^ (-1 : Int32))))) 2 (upd ((oA (oA u 26 g20) 3 (upd (u.2 3) nv (((u.2 3) nv) &&& (((nI 1) <<< ((nI a1) &&& 31)) ^^^ (-1 : Int32))))).2 2) nv ((((oA (oA u 26 g20) 3 (upd (u.2 3) nv (((u.2 3) nv) &&& (((nI 1) <<< ((nI a1) &&& 31)) ^^^ (-1 : Int32))))).2 2) nv) ||| ((nI 1) <<< ((nI a1) &&& 31))))).2 2) ((oA (oA (oA u 26 g20) 3 (upd (u.2 3) nv (((u.2 3) nv) &&& (((nI 1) <<< ((nI a1) &&& 31)) ^^^ (-1 : Int32))))) 2 (upd ((oA (oA u 26 g20) 3 (upd (u.2 3) nv (((u.2 3) nv) &&& (((nI 1) <<< ((nI a1) &&& 31)) ^^^ (-1 : Int32))))).2 2) nv ((((oA (oA u 26 g20) 3 (upd (u.2 3) nv (((u.2 3) nv) &&& (((nI 1) <<< ((nI a1) &&& 31)) ^^^ (-1 : Int32))))).2 2) nv) ||| ((nI 1) <<< ((nI a1) &&& 31))))).2 3) (nI nv))) nl), (oA (oA (oA (oA u 26 g20) 3 (upd (u.2 3) nv (((u.2 3) nv) &&& (((nI 1) <<< ((nI a1) &&& 31)) ^^^ (-1 : Int32))))) 2 (upd ((oA (oA u 26 g20) 3 (upd (u.2 3) nv (((u.2 3) nv) &&& (((nI 1) <<< ((nI a1) &&& 31)) ^^^ (-1 : Int32))))).2 2) nv ((((oA (oA u 26 g20) 3 (upd (u.2 3) nv (((u.2 3) nv) &&& (((nI 1) <<< ((nI a1) &&& 31)) ^^^ (-1 : Int32))))).2 2) nv) ||| ((nI 1) <<< ((nI a1) &&& 31))))) 26 g62, lt, sj), rfl, ⟨⟨nv, nl, nt, nh, hI0⟩, ⟨rfl, rfl, rfl⟩, rfl, rfl⟩, show PP G (mw G h (oA (oA (oA (oA u 26 g20) 3 (upd (u.2 3) nv (((u.2 3) nv) &&& (((nI 1) <<< ((nI a1) &&& 31)) ^^^ (-1 : Int32))))) 2 (upd ((oA (oA u 26 g20) 3 (upd (u.2 3) nv (((u.2 3) nv) &&& (((nI 1) <<< ((nI a1) &&& 31)) ^^^ (-1 : Int32))))).2 2) nv ((((oA (oA u 26 g20) 3 (upd (u.2 3) nv (((u.2 3) nv) &&& (((nI 1) <<< ((nI a1) &&& 31)) ^^^ (-1 : Int32))))).2 2) nv) ||| ((nI 1) <<< ((nI a1) &&& 31))))) 26 g62) lt sj) t.heap by rw [ht]; exact hP⟩, hS.F ht⟩) hS.2.2 dX5_include_65
  · skip
    refine lv_if_ne (tgt := 11) hx hb dX5_include_5 (by decide) (fun c9 => absurd (by decide) c9) (fun _ => ?_)
    refine lv_ldc (v := (-1000000001 : Int32)) hx hb hown (hts (.constant RX5 216 (-1000000001)) (List.mem_of_getElem? (i := 1) rfl)) dX5_include_8 ?_
    exact W.iret (v := (-1000000001 : Int32)) hx hb hr (fun t ht hW => ⟨⟨(-1000000001 : Int32), (u, lt, sj), rfl, ⟨⟨nv, nl, nt, nh, hI0⟩, ⟨rfl, rfl, rfl⟩, rfl, rfl⟩, show PP G (mw G h u lt sj) t.heap by rw [ht]; exact hP⟩, hS.F ht⟩) hS.2.2 dX5_include_10
set_option maxHeartbeats 1000000 in
set_option maxRecDepth 100000 in
theorem mt_X5_exclude (l : Launch) (G : gG) (h : Nat → Nat) (sz : Nat) (u : oS) (lt : Int64) (sj : Nat → Int64) (a : Int32) (nv nl nt nh : Nat) (hI : MIx u nv nl nt nh) : Met l yX5_exclude wsX5_exclude ({ frames := 4, cells := 0, slots := 0, locals := 86 }) (preW G (mw G h u lt sj) sz [.ref (h 0), .int a]) (va_Qi (fun (r : Int32) (v : oS × Int64 × (Nat → Int64)) => MIk u v.1) (fun v t => PP G (mw G h v.1 v.2.1 v.2.2) t.heap) (va_A (mw G h u lt sj) sz)) 0 0 (va_A (mw G h u lt sj) sz) := by
  refine Met.ofW (cc := cX5_exclude) (maxL := 2) (ret := (some .int)) (by decide) rfl ?_
  intro p e s m args below meth c s₁ B hml hv
  obtain ⟨ha, hsz, hP, hK, hN, hD0⟩ := hv
  subst ha
  have hx := B.exec
  have hb := B.bytes
  have hr := B.returns
  have hts := atoms_spec (ws := wsX5_exclude) B.pre
  have hown : s.vm.findClass RX5 = some m.cls := findClass_of_methodNamed B.named
  have hlocks := B.notSynchronized
  subst hsz
  have hD := hD0.self (sz := s.heap.size)
  generalize hAe : va_A (mw G h u lt sj) s.heap.size = A at hD ⊢
  have hA : ∀ q : Nat, s.heap.size ≤ q → A q := fun q h => by rw [← hAe]; exact Or.inr h
  clear hAe hD0
  have hS : va_S A s.heap s.heap [] := va_S.rf
  have hiX5 : ∀ w ∈ wsX50, w ∈ wsX5_exclude := by decide +kernel
  have k178 := hts (.fieldLink RX5 178 "WovenHistoryModel" "isOpen" "Z") (List.mem_of_getElem? (i := 2) rfl)
  have k13 := hts (.fieldLink RX5 13 "WovenHistoryModel" "includes" "[I") (List.mem_of_getElem? (i := 4) rfl)
  have k91 := hts (.fieldLink RX5 91 "WovenHistoryModel" "versions" "I") (List.mem_of_getElem? (i := 5) rfl)
  have k16 := hts (.fieldLink RX5 16 "WovenHistoryModel" "excludes" "[I") (List.mem_of_getElem? (i := 6) rfl)
  have hl := lv_entry ([.ref (h 0), .int a]) (n := 2) (Nat.le_of_ble_eq_true rfl)
  rw [lg_entry_eq]
  generalize (lg_sl ([.ref (h 0), .int a]) ++ List.replicate (2 - (lg_sl ([.ref (h 0), .int a])).length) Slot.unset).toArray = ls at hl ⊢
  have hl : lv_has ls 2 [(0, .ref (h 0)), (1, .int a)] := hl
  have hI0 := hI
  obtain ⟨hnv, hnl, hnt, hnh, hnv24, hnl120, hnt240, hnh120, hop, hopn, hparV, hsz4, himg⟩ := hI
  refine lv_aload_n hx hb dX5_exclude_0 rfl (lv_at hl 0 rfl) ?_
  refine lv_iload_n hx hb dX5_exclude_1 rfl (lv_at hl 1 rfl) ?_
  refine cRi (w := mw G h u lt sj) (As := [.int a]) (rest := []) ⟨hx, hb, hml, hown, hts⟩ (mt_X5_isVersion l G h u lt sj nv a (hnv) (by first | assumption | omega)) (cwV 1 hts gX5_exclude_X5_isVersion rfl rfl rfl (by decide +kernel) ⟨Nat.le_of_ble_eq_true rfl, Nat.le_of_ble_eq_true rfl⟩) hK hN hP 0 5 rfl rfl rfl hl.1 rfl (Nat.le_of_ble_eq_true rfl) ⟨Nat.zero_le _, Nat.zero_le _⟩ dX5_exclude_2 (fun r2 hw2 => ?_)
  rcases hw2 with ⟨rfl, a1, ha1, rfl⟩ | ⟨rfl, hna1⟩
  · skip
    refine lv_if_ne (tgt := 11) hx hb dX5_exclude_5 (by decide) (fun _ => ?_) (fun c9 => absurd c9 (by decide))
    refine lv_aload_n hx hb dX5_exclude_11 rfl (lv_at hl 0 rfl) ?_
    refine va_get (D := gD G) (ci := 5) (v := .int (u.1 8)) (C := RX5) (T := TX5) (N := 38) hx hb hts hiX5 hown hK hP 0 rfl rfl 8 (by decide) k178 (fun _ h9 => h9) rfl dX5_exclude_12 ?_
    refine lv_if_eq (tgt := 26) hx hb dX5_exclude_15 (by decide) (fun c15 => ?_) (fun c15 => ?_)
    · skip
      refine lv_ldc (v := (-1000000003 : Int32)) hx hb hown (hts (.constant RX5 225 (-1000000003)) (List.mem_of_getElem? (i := 3) rfl)) dX5_exclude_26 ?_
      exact W.iret (v := (-1000000003 : Int32)) hx hb hr (fun t ht hW => ⟨⟨(-1000000003 : Int32), (u, lt, sj), rfl, ⟨⟨nv, nl, nt, nh, hI0⟩, ⟨rfl, rfl, rfl⟩, rfl, rfl⟩, show PP G (mw G h u lt sj) t.heap by rw [ht]; exact hP⟩, hS.F ht⟩) hS.2.2 dX5_exclude_28
    · skip
      obtain ⟨ho1, ho2⟩ := hopn (hop.resolve_left c15)
      refine lv_aload_n hx hb dX5_exclude_18 rfl (lv_at hl 0 rfl) ?_
      refine lv_iload_n hx hb dX5_exclude_19 rfl (lv_at hl 1 rfl) ?_
      have hP := mw_self26 hP
      have hD : va_D A (mw G h (oA u 26 (u.2 26)) lt sj) := mw_self26D hD
      refine cXi (As := [.int (nI a1)]) (rest := []) (S := oS × Int64 × (Nat → Int64)) (wa := mw G h (oA u 26 (u.2 26)) lt sj) (w1 := fun v => mw G h v.1 v.2.1 v.2.2) ⟨hx, hb, hml, hown, hts⟩ (mt_X5_isChange l G h _ u lt sj (u.2 26) nv (nI a1) (hnv) (by first | assumption | omega) (ho2)) (cwV 1 hts gX5_exclude_X5_isChange rfl rfl rfl (by decide +kernel) ⟨Nat.le_of_ble_eq_true rfl, Nat.le_of_ble_eq_true rfl⟩) hK hN hP hD hS hA (fun _ => rfl) 0 5 rfl rfl rfl hl.1 rfl (Nat.le_of_ble_eq_true rfl) ⟨Nat.zero_le _, Nat.zero_le _⟩ dX5_exclude_20 (fun r20 u20 H locs hw20 hP hD hS => ?_)
      rcases hw20 with ⟨g20, rfl, rfl⟩ | ⟨g20, rfl, rfl⟩
      · skip
        have hP : PP G (mw G h (oA u 26 g20) lt sj) H := hP
        have hD : va_D A (mw G h (oA u 26 g20) lt sj) := hD
        refine lv_if_ne (tgt := 29) hx hb dX5_exclude_23 (by decide) (fun _ => ?_) (fun c9 => absurd c9 (by decide))
        refine lv_aload_n hx hb dX5_exclude_29 rfl (lv_at hl 0 rfl) ?_
        refine va_get (D := gD G) (ci := 5) (v := .ref (h 2)) (C := RX5) (T := TX5) (N := 38) hx hb hts hiX5 hown hK hP 0 rfl rfl 2 (by decide) k13 (fun _ h9 => h9) rfl dX5_exclude_30 ?_
        refine lv_aload_n hx hb dX5_exclude_33 rfl (lv_at hl 0 rfl) ?_
        refine va_get (D := gD G) (ci := 5) (v := .int (u.1 0)) (C := RX5) (T := TX5) (N := 38) hx hb hts hiX5 hown hK hP 0 rfl rfl 0 (by decide) k91 (fun _ h9 => h9) rfl dX5_exclude_34 ?_
        refine topE hnv ?_
        refine lv_dup2_11 hx hb dX5_exclude_37 rfl rfl ?_
        refine ialdN (f := u.2 2) (n := 25) (k := nv) hx hb hK hP 2 rfl rfl (by omega) dX5_exclude_38 ?_
        refine lv_iconst (v := nI 1) hx hb dX5_exclude_39 (by decide) ?_
        refine lv_iload_n hx hb dX5_exclude_40 rfl (lv_at hl 1 rfl) ?_
        refine lv_ishl hx hb dX5_exclude_41 ?_
        refine lv_iconst (v := (-1 : Int32)) hx hb dX5_exclude_42 (by decide) ?_
        refine lv_ixor hx hb dX5_exclude_43 ?_
        refine lv_iand hx hb dX5_exclude_44 ?_
        refine iastN (f := u.2 2) (n := 25) (k := nv) hx hb hK hP hD hS 2 rfl rfl (by omega) dX5_exclude_45 (fun H locs hP hD hS => ?_)
        have hP : PP G (mw G h (oA (oA u 26 g20) 2 (upd (u.2 2) nv (((u.2 2) nv) &&& (((nI 1) <<< ((nI a1) &&& 31)) ^^^ (-1 : Int32))))) lt sj) H := hP
        have hD : va_D A (mw G h (oA (oA u 26 g20) 2 (upd (u.2 2) nv (((u.2 2) nv) &&& (((nI 1) <<< ((nI a1) &&& 31)) ^^^ (-1 : Int32))))) lt sj) := hD
        refine lv_aload_n hx hb dX5_exclude_46 rfl (lv_at hl 0 rfl) ?_
        refine va_get (D := gD G) (ci := 5) (v := .ref (h 3)) (C := RX5) (T := TX5) (N := 38) hx hb hts hiX5 hown hK hP 0 rfl rfl 3 (by decide) k16 (fun _ h9 => h9) rfl dX5_exclude_47 ?_
        refine lv_aload_n hx hb dX5_exclude_50 rfl (lv_at hl 0 rfl) ?_
        refine va_get (D := gD G) (ci := 5) (v := .int ((oA (oA u 26 g20) 2 (upd (u.2 2) nv (((u.2 2) nv) &&& (((nI 1) <<< ((nI a1) &&& 31)) ^^^ (-1 : Int32))))).1 0)) (C := RX5) (T := TX5) (N := 38) hx hb hts hiX5 hown hK hP 0 rfl rfl 0 (by decide) k91 (fun _ h9 => h9) rfl dX5_exclude_51 ?_
        refine topE hnv ?_
        refine lv_dup2_11 hx hb dX5_exclude_54 rfl rfl ?_
        refine ialdN (f := (oA (oA u 26 g20) 2 (upd (u.2 2) nv (((u.2 2) nv) &&& (((nI 1) <<< ((nI a1) &&& 31)) ^^^ (-1 : Int32))))).2 3) (n := 25) (k := nv) hx hb hK hP 3 rfl rfl (by omega) dX5_exclude_55 ?_
        refine lv_iconst (v := nI 1) hx hb dX5_exclude_56 (by decide) ?_
        refine lv_iload_n hx hb dX5_exclude_57 rfl (lv_at hl 1 rfl) ?_
        refine lv_ishl hx hb dX5_exclude_58 ?_
        refine lv_ior hx hb dX5_exclude_59 ?_
        refine iastN (f := (oA (oA u 26 g20) 2 (upd (u.2 2) nv (((u.2 2) nv) &&& (((nI 1) <<< ((nI a1) &&& 31)) ^^^ (-1 : Int32))))).2 3) (n := 25) (k := nv) hx hb hK hP hD hS 3 rfl rfl (by omega) dX5_exclude_60 (fun H locs hP hD hS => ?_)
        have hP : PP G (mw G h (oA (oA (oA u 26 g20) 2 (upd (u.2 2) nv (((u.2 2) nv) &&& (((nI 1) <<< ((nI a1) &&& 31)) ^^^ (-1 : Int32))))) 3 (upd ((oA (oA u 26 g20) 2 (upd (u.2 2) nv (((u.2 2) nv) &&& (((nI 1) <<< ((nI a1) &&& 31)) ^^^ (-1 : Int32))))).2 3) nv ((((oA (oA u 26 g20) 2 (upd (u.2 2) nv (((u.2 2) nv) &&& (((nI 1) <<< ((nI a1) &&& 31)) ^^^ (-1 : Int32))))).2 3) nv) ||| ((nI 1) <<< ((nI a1) &&& 31))))) lt sj) H := hP
        have hD : va_D A (mw G h (oA (oA (oA u 26 g20) 2 (upd (u.2 2) nv (((u.2 2) nv) &&& (((nI 1) <<< ((nI a1) &&& 31)) ^^^ (-1 : Int32))))) 3 (upd ((oA (oA u 26 g20) 2 (upd (u.2 2) nv (((u.2 2) nv) &&& (((nI 1) <<< ((nI a1) &&& 31)) ^^^ (-1 : Int32))))).2 3) nv ((((oA (oA u 26 g20) 2 (upd (u.2 2) nv (((u.2 2) nv) &&& (((nI 1) <<< ((nI a1) &&& 31)) ^^^ (-1 : Int32))))).2 3) nv) ||| ((nI 1) <<< ((nI a1) &&& 31))))) lt sj) := hD
        refine lv_aload_n hx hb dX5_exclude_61 rfl (lv_at hl 0 rfl) ?_
        have hP := mw_self26 hP
        have hD : va_D A (mw G h (oA (oA (oA (oA u 26 g20) 2 (upd (u.2 2) nv (((u.2 2) nv) &&& (((nI 1) <<< ((nI a1) &&& 31)) ^^^ (-1 : Int32))))) 3 (upd ((oA (oA u 26 g20) 2 (upd (u.2 2) nv (((u.2 2) nv) &&& (((nI 1) <<< ((nI a1) &&& 31)) ^^^ (-1 : Int32))))).2 3) nv ((((oA (oA u 26 g20) 2 (upd (u.2 2) nv (((u.2 2) nv) &&& (((nI 1) <<< ((nI a1) &&& 31)) ^^^ (-1 : Int32))))).2 3) nv) ||| ((nI 1) <<< ((nI a1) &&& 31))))) 26 ((oA (oA (oA u 26 g20) 2 (upd (u.2 2) nv (((u.2 2) nv) &&& (((nI 1) <<< ((nI a1) &&& 31)) ^^^ (-1 : Int32))))) 3 (upd ((oA (oA u 26 g20) 2 (upd (u.2 2) nv (((u.2 2) nv) &&& (((nI 1) <<< ((nI a1) &&& 31)) ^^^ (-1 : Int32))))).2 3) nv ((((oA (oA u 26 g20) 2 (upd (u.2 2) nv (((u.2 2) nv) &&& (((nI 1) <<< ((nI a1) &&& 31)) ^^^ (-1 : Int32))))).2 3) nv) ||| ((nI 1) <<< ((nI a1) &&& 31))))).2 26)) lt sj) := mw_self26D hD
        refine cXi (As := []) (rest := []) (S := oS × Int64 × (Nat → Int64)) (wa := mw G h (oA (oA (oA (oA u 26 g20) 2 (upd (u.2 2) nv (((u.2 2) nv) &&& (((nI 1) <<< ((nI a1) &&& 31)) ^^^ (-1 : Int32))))) 3 (upd ((oA (oA u 26 g20) 2 (upd (u.2 2) nv (((u.2 2) nv) &&& (((nI 1) <<< ((nI a1) &&& 31)) ^^^ (-1 : Int32))))).2 3) nv ((((oA (oA u 26 g20) 2 (upd (u.2 2) nv (((u.2 2) nv) &&& (((nI 1) <<< ((nI a1) &&& 31)) ^^^ (-1 : Int32))))).2 3) nv) ||| ((nI 1) <<< ((nI a1) &&& 31))))) 26 ((oA (oA (oA u 26 g20) 2 (upd (u.2 2) nv (((u.2 2) nv) &&& (((nI 1) <<< ((nI a1) &&& 31)) ^^^ (-1 : Int32))))) 3 (upd ((oA (oA u 26 g20) 2 (upd (u.2 2) nv (((u.2 2) nv) &&& (((nI 1) <<< ((nI a1) &&& 31)) ^^^ (-1 : Int32))))).2 3) nv ((((oA (oA u 26 g20) 2 (upd (u.2 2) nv (((u.2 2) nv) &&& (((nI 1) <<< ((nI a1) &&& 31)) ^^^ (-1 : Int32))))).2 3) nv) ||| ((nI 1) <<< ((nI a1) &&& 31))))).2 26)) lt sj) (w1 := fun v => mw G h v.1 v.2.1 v.2.2) ⟨hx, hb, hml, hown, hts⟩ (mt_X5_openLines l G h _ (oA (oA (oA u 26 g20) 2 (upd (u.2 2) nv (((u.2 2) nv) &&& (((nI 1) <<< ((nI a1) &&& 31)) ^^^ (-1 : Int32))))) 3 (upd ((oA (oA u 26 g20) 2 (upd (u.2 2) nv (((u.2 2) nv) &&& (((nI 1) <<< ((nI a1) &&& 31)) ^^^ (-1 : Int32))))).2 3) nv ((((oA (oA u 26 g20) 2 (upd (u.2 2) nv (((u.2 2) nv) &&& (((nI 1) <<< ((nI a1) &&& 31)) ^^^ (-1 : Int32))))).2 3) nv) ||| ((nI 1) <<< ((nI a1) &&& 31))))) lt sj ((oA (oA (oA u 26 g20) 2 (upd (u.2 2) nv (((u.2 2) nv) &&& (((nI 1) <<< ((nI a1) &&& 31)) ^^^ (-1 : Int32))))) 3 (upd ((oA (oA u 26 g20) 2 (upd (u.2 2) nv (((u.2 2) nv) &&& (((nI 1) <<< ((nI a1) &&& 31)) ^^^ (-1 : Int32))))).2 3) nv ((((oA (oA u 26 g20) 2 (upd (u.2 2) nv (((u.2 2) nv) &&& (((nI 1) <<< ((nI a1) &&& 31)) ^^^ (-1 : Int32))))).2 3) nv) ||| ((nI 1) <<< ((nI a1) &&& 31))))).2 26) nv nl (hnv) (hnl) (by first | assumption | omega) (by first | assumption | omega) (ho2)) (cwV 0 hts gX5_exclude_X5_openLines rfl rfl rfl (by decide +kernel) ⟨Nat.le_of_ble_eq_true rfl, Nat.le_of_ble_eq_true rfl⟩) hK hN hP hD hS hA (fun _ => rfl) 0 5 rfl rfl rfl hl.1 rfl (Nat.le_of_ble_eq_true rfl) ⟨Nat.zero_le _, Nat.zero_le _⟩ dX5_exclude_62 (fun r62 u62 H locs hw62 hP hD hS => ?_)
        obtain ⟨g62, rfl, rfl⟩ := hw62
        have hP : PP G (mw G h (oA (oA (oA (oA u 26 g20) 2 (upd (u.2 2) nv (((u.2 2) nv) &&& (((nI 1) <<< ((nI a1) &&& 31)) ^^^ (-1 : Int32))))) 3 (upd ((oA (oA u 26 g20) 2 (upd (u.2 2) nv (((u.2 2) nv) &&& (((nI 1) <<< ((nI a1) &&& 31)) ^^^ (-1 : Int32))))).2 3) nv ((((oA (oA u 26 g20) 2 (upd (u.2 2) nv (((u.2 2) nv) &&& (((nI 1) <<< ((nI a1) &&& 31)) ^^^ (-1 : Int32))))).2 3) nv) ||| ((nI 1) <<< ((nI a1) &&& 31))))) 26 g62) lt sj) H := hP
        have hD : va_D A (mw G h (oA (oA (oA (oA u 26 g20) 2 (upd (u.2 2) nv (((u.2 2) nv) &&& (((nI 1) <<< ((nI a1) &&& 31)) ^^^ (-1 : Int32))))) 3 (upd ((oA (oA u 26 g20) 2 (upd (u.2 2) nv (((u.2 2) nv) &&& (((nI 1) <<< ((nI a1) &&& 31)) ^^^ (-1 : Int32))))).2 3) nv ((((oA (oA u 26 g20) 2 (upd (u.2 2) nv (((u.2 2) nv) &&& (((nI 1) <<< ((nI a1) &&& 31)) ^^^ (-1 : Int32))))).2 3) nv) ||| ((nI 1) <<< ((nI a1) &&& 31))))) 26 g62) lt sj) := hD
        have hc62 := cnt_le (sdb ((oA (oA (oA u 26 g20) 2 (upd (u.2 2) nv (((u.2 2) nv) &&& (((nI 1) <<< ((nI a1) &&& 31)) ^^^ (-1 : Int32))))) 3 (upd ((oA (oA u 26 g20) 2 (upd (u.2 2) nv (((u.2 2) nv) &&& (((nI 1) <<< ((nI a1) &&& 31)) ^^^ (-1 : Int32))))).2 3) nv ((((oA (oA u 26 g20) 2 (upd (u.2 2) nv (((u.2 2) nv) &&& (((nI 1) <<< ((nI a1) &&& 31)) ^^^ (-1 : Int32))))).2 3) nv) ||| ((nI 1) <<< ((nI a1) &&& 31))))).2 6) ((oA (oA (oA u 26 g20) 2 (upd (u.2 2) nv (((u.2 2) nv) &&& (((nI 1) <<< ((nI a1) &&& 31)) ^^^ (-1 : Int32))))) 3 (upd ((oA (oA u 26 g20) 2 (upd (u.2 2) nv (((u.2 2) nv) &&& (((nI 1) <<< ((nI a1) &&& 31)) ^^^ (-1 : Int32))))).2 3) nv ((((oA (oA u 26 g20) 2 (upd (u.2 2) nv (((u.2 2) nv) &&& (((nI 1) <<< ((nI a1) &&& 31)) ^^^ (-1 : Int32))))).2 3) nv) ||| ((nI 1) <<< ((nI a1) &&& 31))))).2 7) (chV ((oA (oA (oA u 26 g20) 2 (upd (u.2 2) nv (((u.2 2) nv) &&& (((nI 1) <<< ((nI a1) &&& 31)) ^^^ (-1 : Int32))))) 3 (upd ((oA (oA u 26 g20) 2 (upd (u.2 2) nv (((u.2 2) nv) &&& (((nI 1) <<< ((nI a1) &&& 31)) ^^^ (-1 : Int32))))).2 3) nv ((((oA (oA u 26 g20) 2 (upd (u.2 2) nv (((u.2 2) nv) &&& (((nI 1) <<< ((nI a1) &&& 31)) ^^^ (-1 : Int32))))).2 3) nv) ||| ((nI 1) <<< ((nI a1) &&& 31))))).2 1) ((oA (oA (oA u 26 g20) 2 (upd (u.2 2) nv (((u.2 2) nv) &&& (((nI 1) <<< ((nI a1) &&& 31)) ^^^ (-1 : Int32))))) 3 (upd ((oA (oA u 26 g20) 2 (upd (u.2 2) nv (((u.2 2) nv) &&& (((nI 1) <<< ((nI a1) &&& 31)) ^^^ (-1 : Int32))))).2 3) nv ((((oA (oA u 26 g20) 2 (upd (u.2 2) nv (((u.2 2) nv) &&& (((nI 1) <<< ((nI a1) &&& 31)) ^^^ (-1 : Int32))))).2 3) nv) ||| ((nI 1) <<< ((nI a1) &&& 31))))).2 2) ((oA (oA (oA u 26 g20) 2 (upd (u.2 2) nv (((u.2 2) nv) &&& (((nI 1) <<< ((nI a1) &&& 31)) ^^^ (-1 : Int32))))) 3 (upd ((oA (oA u 26 g20) 2 (upd (u.2 2) nv (((u.2 2) nv) &&& (((nI 1) <<< ((nI a1) &&& 31)) ^^^ (-1 : Int32))))).2 3) nv ((((oA (oA u 26 g20) 2 (upd (u.2 2) nv (((u.2 2) nv) &&& (((nI 1) <<< ((nI a1) &&& 31)) ^^^ (-1 : Int32))))).2 3) nv) ||| ((nI 1) <<< ((nI a1) &&& 31))))).2 3) (nI nv))) nl
        exact W.iret (v := nI (cnt (sdb ((oA (oA (oA u 26 g20) 2 (upd (u.2 2) nv (((u.2 2) nv) &&& (((nI 1) <<< ((nI a1) &&& 31)) ^^^ (-1 : Int32))))) 3 (upd ((oA (oA u 26 g20) 2 (upd (u.2 2) nv (((u.2 2) nv) &&& (((nI 1) <<< ((nI a1) &&& 31)) ^^^ (-1 : Int32))))).2 3) nv ((((oA (oA u 26 g20) 2 (upd (u.2 2) nv (((u.2 2) nv) &&& (((nI 1) <<< ((nI a1) &&& 31)) ^^^ (-1 : Int32))))).2 3) nv) ||| ((nI 1) <<< ((nI a1) &&& 31))))).2 6) ((oA (oA (oA u 26 g20) 2 (upd (u.2 2) nv (((u.2 2) nv) &&& (((nI 1) <<< ((nI a1) &&& 31)) ^^^ (-1 : Int32))))) 3 (upd ((oA (oA u 26 g20) 2 (upd (u.2 2) nv (((u.2 2) nv) &&& (((nI 1) <<< ((nI a1) &&& 31)) ^^^ (-1 : Int32))))).2 3) nv ((((oA (oA u 26 g20) 2 (upd (u.2 2) nv (((u.2 2) nv) &&& (((nI 1) <<< ((nI a1) &&& 31)) ^^^ (-1 : Int32))))).2 3) nv) ||| ((nI 1) <<< ((nI a1) &&& 31))))).2 7) (chV ((oA (oA (oA u 26 g20) 2 (upd (u.2 2) nv (((u.2 2) nv) &&& (((nI 1) <<< ((nI a1) &&& 31)) ^^^ (-1 : Int32))))) 3 (upd ((oA (oA u 26 g20) 2 (upd (u.2 2) nv (((u.2 2) nv) &&& (((nI 1) <<< ((nI a1) &&& 31)) ^^^ (-1 : Int32))))).2 3) nv ((((oA (oA u 26 g20) 2 (upd (u.2 2) nv (((u.2 2) nv) &&& (((nI 1) <<< ((nI a1) &&& 31)) ^^^ (-1 : Int32))))).2 3) nv) ||| ((nI 1) <<< ((nI a1) &&& 31))))).2 1) ((oA (oA (oA u 26 g20) 2 (upd (u.2 2) nv (((u.2 2) nv) &&& (((nI 1) <<< ((nI a1) &&& 31)) ^^^ (-1 : Int32))))) 3 (upd ((oA (oA u 26 g20) 2 (upd (u.2 2) nv (((u.2 2) nv) &&& (((nI 1) <<< ((nI a1) &&& 31)) ^^^ (-1 : Int32))))).2 3) nv ((((oA (oA u 26 g20) 2 (upd (u.2 2) nv (((u.2 2) nv) &&& (((nI 1) <<< ((nI a1) &&& 31)) ^^^ (-1 : Int32))))).2 3) nv) ||| ((nI 1) <<< ((nI a1) &&& 31))))).2 2) ((oA (oA (oA u 26 g20) 2 (upd (u.2 2) nv (((u.2 2) nv) &&& (((nI 1) <<< ((nI a1) &&& 31)) ^^^ (-1 : Int32))))) 3 (upd ((oA (oA u 26 g20) 2 (upd (u.2 2) nv (((u.2 2) nv) &&& (((nI 1) <<< ((nI a1) &&& 31)) ^^^ (-1 : Int32))))).2 3) nv ((((oA (oA u 26 g20) 2 (upd (u.2 2) nv (((u.2 2) nv) &&& (((nI 1) <<< ((nI a1) &&& 31)) ^^^ (-1 : Int32))))).2 3) nv) ||| ((nI 1) <<< ((nI a1) &&& 31))))).2 3) (nI nv))) nl)) hx hb hr (fun t ht hW => ⟨⟨nI (cnt (sdb ((oA (oA (oA u 26 g20) 2 (upd (u.2 2) nv (((u.2 2) nv) &&& (((nI 1) <<< ((nI a1) &&& 31)) ^^^ (-1 : Int32))))) 3 (upd ((oA (oA u 26 g20) 2 (upd (u.2 2) nv (((u.2 2) nv) &&& (((nI 1) <<< ((nI a1) &&& 31)) ^^^ (-1 : Int32))))).2 3) nv ((((oA (oA u 26 g20) 2 (upd (u.2 2) nv (((u.2 2) nv) &&& (((nI 1) <<< ((nI a1) &&& 31)) ^^^ (-1 : Int32))))).2 3) nv) ||| ((nI 1) <<< ((nI a1) &&& 31))))).2 6) ((oA (oA (oA u 26 g20) 2 (upd (u.2 2) nv (((u.2 2) nv) &&& (((nI 1) <<< ((nI a1) &&& 31)) ^^^ (-1 : Int32))))) 3 (upd ((oA (oA u 26 g20) 2 (upd (u.2 2) nv (((u.2 2) nv) &&& (((nI 1) <<< ((nI a1) &&& 31)) ^^^ (-1 : Int32))))).2 3) nv ((((oA (oA u 26 g20) 2 (upd (u.2 2) nv (((u.2 2) nv) &&& (((nI 1) <<< ((nI a1) &&& 31)) ^^^ (-1 : Int32))))).2 3) nv) ||| ((nI 1) <<< ((nI a1) &&& 31))))).2 7) (chV ((oA (oA (oA u 26 g20) 2 (upd (u.2 2) nv (((u.2 2) nv) &&& (((nI 1) <<< ((nI a1) &&& 31)) ^^^ (-1 : Int32))))) 3 (upd ((oA (oA u 26 g20) 2 (upd (u.2 2) nv (((u.2 2) nv) &&& (((nI 1) <<< ((nI a1) &&& 31)) ^^^ (-1 : Int32))))).2 3) nv ((((oA (oA u 26 g20) 2 (upd (u.2 2) nv (((u.2 2) nv) &&& (((nI 1) <<< ((nI a1) &&& 31)) ^^^ (-1 : Int32))))).2 3) nv) ||| ((nI 1) <<< ((nI a1) &&& 31))))).2 1) ((oA (oA (oA u 26 g20) 2 (upd (u.2 2) nv (((u.2 2) nv) &&& (((nI 1) <<< ((nI a1) &&& 31)) ^^^ (-1 : Int32))))) 3 (upd ((oA (oA u 26 g20) 2 (upd (u.2 2) nv (((u.2 2) nv) &&& (((nI 1) <<< ((nI a1) &&& 31)) ^^^ (-1 : Int32))))).2 3) nv ((((oA (oA u 26 g20) 2 (upd (u.2 2) nv (((u.2 2) nv) &&& (((nI 1) <<< ((nI a1) &&& 31)) ^^^ (-1 : Int32))))).2 3) nv) ||| ((nI 1) <<< ((nI a1) &&& 31))))).2 2) ((oA (oA (oA u 26 g20) 2 (upd (u.2 2) nv (((u.2 2) nv) &&& (((nI 1) <<< ((nI a1) &&& 31)) ^^^ (-1 : Int32))))) 3 (upd ((oA (oA u 26 g20) 2 (upd (u.2 2) nv (((u.2 2) nv) &&& (((nI 1) <<< ((nI a1) &&& 31)) ^^^ (-1 : Int32))))).2 3) nv ((((oA (oA u 26 g20) 2 (upd (u.2 2) nv (((u.2 2) nv) &&& (((nI 1) <<< ((nI a1) &&& 31)) ^^^ (-1 : Int32))))).2 3) nv) ||| ((nI 1) <<< ((nI a1) &&& 31))))).2 3) (nI nv))) nl), (oA (oA (oA (oA u 26 g20) 2 (upd (u.2 2) nv (((u.2 2) nv) &&& (((nI 1) <<< ((nI a1) &&& 31)) ^^^ (-1 : Int32))))) 3 (upd ((oA (oA u 26 g20) 2 (upd (u.2 2) nv (((u.2 2) nv) &&& (((nI 1) <<< ((nI a1) &&& 31)) ^^^ (-1 : Int32))))).2 3) nv ((((oA (oA u 26 g20) 2 (upd (u.2 2) nv (((u.2 2) nv) &&& (((nI 1) <<< ((nI a1) &&& 31)) ^^^ (-1 : Int32))))).2 3) nv) ||| ((nI 1) <<< ((nI a1) &&& 31))))) 26 g62, lt, sj), rfl, ⟨⟨nv, nl, nt, nh, hI0⟩, ⟨rfl, rfl, rfl⟩, rfl, rfl⟩, show PP G (mw G h (oA (oA (oA (oA u 26 g20) 2 (upd (u.2 2) nv (((u.2 2) nv) &&& (((nI 1) <<< ((nI a1) &&& 31)) ^^^ (-1 : Int32))))) 3 (upd ((oA (oA u 26 g20) 2 (upd (u.2 2) nv (((u.2 2) nv) &&& (((nI 1) <<< ((nI a1) &&& 31)) ^^^ (-1 : Int32))))).2 3) nv ((((oA (oA u 26 g20) 2 (upd (u.2 2) nv (((u.2 2) nv) &&& (((nI 1) <<< ((nI a1) &&& 31)) ^^^ (-1 : Int32))))).2 3) nv) ||| ((nI 1) <<< ((nI a1) &&& 31))))) 26 g62) lt sj) t.heap by rw [ht]; exact hP⟩, hS.F ht⟩) hS.2.2 dX5_exclude_65
      · skip
        have hP : PP G (mw G h (oA u 26 g20) lt sj) H := hP
        have hD : va_D A (mw G h (oA u 26 g20) lt sj) := hD
        refine lv_if_ne (tgt := 29) hx hb dX5_exclude_23 (by decide) (fun c9 => absurd (by decide) c9) (fun _ => ?_)
        refine lv_ldc (v := (-1000000003 : Int32)) hx hb hown (hts (.constant RX5 225 (-1000000003)) (List.mem_of_getElem? (i := 3) rfl)) dX5_exclude_26 ?_
        exact W.iret (v := (-1000000003 : Int32)) hx hb hr (fun t ht hW => ⟨⟨(-1000000003 : Int32), (oA u 26 g20, lt, sj), rfl, ⟨⟨nv, nl, nt, nh, hI0⟩, ⟨rfl, rfl, rfl⟩, rfl, rfl⟩, show PP G (mw G h (oA u 26 g20) lt sj) t.heap by rw [ht]; exact hP⟩, hS.F ht⟩) hS.2.2 dX5_exclude_28
  · skip
    refine lv_if_ne (tgt := 11) hx hb dX5_exclude_5 (by decide) (fun c9 => absurd (by decide) c9) (fun _ => ?_)
    refine lv_ldc (v := (-1000000001 : Int32)) hx hb hown (hts (.constant RX5 216 (-1000000001)) (List.mem_of_getElem? (i := 1) rfl)) dX5_exclude_8 ?_
    exact W.iret (v := (-1000000001 : Int32)) hx hb hr (fun t ht hW => ⟨⟨(-1000000001 : Int32), (u, lt, sj), rfl, ⟨⟨nv, nl, nt, nh, hI0⟩, ⟨rfl, rfl, rfl⟩, rfl, rfl⟩, show PP G (mw G h u lt sj) t.heap by rw [ht]; exact hP⟩, hS.F ht⟩) hS.2.2 dX5_exclude_10
