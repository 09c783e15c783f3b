set_option maxHeartbeats 1000000 in
set_option maxRecDepth 100000 in
theorem mt_X5_in (l : Launch) (v : Int64) (a : Int64) (b : Int64) : Met l yX5_in wsX5_in ({ frames := 0, cells := 0, slots := 0, locals := 0 }) (preS [.long v, .long a, .long b]) (vp_Si (fun r : Int32 => (r = 1 ∧ a ≤ v ∧ v ≤ b) ∨ (r = 0 ∧ ¬ (a ≤ v ∧ v ≤ b)))) 0 0 (fun _ => False) := by
  refine Met.ofW (cc := cX5_in) (maxL := 6) (ret := (some .boolean)) (by decide) rfl ?_
  intro p e s m args below meth c s₁ B hml hv
  obtain ⟨ha, -⟩ := hv
  subst ha
  have hx := B.exec
  have hb := B.bytes
  have hr := B.returns
  have hts := atoms_spec (ws := wsX5_in) B.pre
  have hown : s.vm.findClass RX5 = some m.cls := findClass_of_methodNamed B.named
  have hlocks := B.notSynchronized
  have hl := lv_entry ([.long v, .long a, .long b]) (n := 6) (Nat.le_of_ble_eq_true rfl)
  rw [lg_entry_eq]
  generalize (lg_sl ([.long v, .long a, .long b]) ++ List.replicate (6 - (lg_sl ([.long v, .long a, .long b])).length) Slot.unset).toArray = ls at hl ⊢
  have hl : lv_has ls 6 [(0, .long v), (2, .long a), (4, .long b)] := hl
  refine lv_lload_n hx hb dX5_in_0 rfl (lv_at hl 0 rfl) ?_
  refine lv_lload_n hx hb dX5_in_1 rfl (lv_at hl 1 rfl) ?_
  refine W.lcmp hx hb dX5_in_2 ?_
  refine lv_if_lt (tgt := 17) hx hb dX5_in_3 (by decide) (fun c3 => ?_) (fun c3 => ?_)
  · skip
    have n3 : v < a := (lg_cmp_lt _ _).mp c3
    refine lv_iconst (v := nI 0) hx hb dX5_in_17 (by decide) ?_
    exact W.zret (v := nI 0) hx hb hr (by decide) (fun t ht hW => ⟨nI 0, rfl, by first | exact Or.inl ⟨rfl, i64_nlt (by assumption), i64_nlt (by assumption)⟩ | exact Or.inr ⟨rfl, i64_no1 (by assumption)⟩ | exact Or.inr ⟨rfl, i64_no2 (by assumption)⟩, ht⟩) (fun _ h9 => by cases h9) dX5_in_18
  · skip
    have n3 : ¬ (v < a) := fun q9 => c3 ((lg_cmp_lt _ _).mpr q9)
    refine lv_lload_n hx hb dX5_in_6 rfl (lv_at hl 0 rfl) ?_
    refine lv_lload hx hb dX5_in_7 (lv_at hl 2 rfl) ?_
    refine W.lcmp hx hb dX5_in_9 ?_
    refine lv_if_gt (tgt := 17) hx hb dX5_in_10 (by decide) (fun c10 => ?_) (fun c10 => ?_)
    · skip
      have n10 : b < v := (lg_cmp_gt _ _).mp c10
      refine lv_iconst (v := nI 0) hx hb dX5_in_17 (by decide) ?_
      exact W.zret (v := nI 0) hx hb hr (by decide) (fun t ht hW => ⟨nI 0, rfl, by first | exact Or.inl ⟨rfl, i64_nlt (by assumption), i64_nlt (by assumption)⟩ | exact Or.inr ⟨rfl, i64_no1 (by assumption)⟩ | exact Or.inr ⟨rfl, i64_no2 (by assumption)⟩, ht⟩) (fun _ h9 => by cases h9) dX5_in_18
    · skip
      have n10 : ¬ (b < v) := fun q9 => c10 ((lg_cmp_gt _ _).mpr q9)
      refine lv_iconst (v := nI 1) hx hb dX5_in_13 (by decide) ?_
      refine lv_goto (tgt := 18) hx hb dX5_in_14 (by decide) ?_
      exact W.zret (v := nI 1) hx hb hr (by decide) (fun t ht hW => ⟨nI 1, rfl, by first | exact Or.inl ⟨rfl, i64_nlt (by assumption), i64_nlt (by assumption)⟩ | exact Or.inr ⟨rfl, i64_no1 (by assumption)⟩ | exact Or.inr ⟨rfl, i64_no2 (by assumption)⟩, ht⟩) (fun _ h9 => by cases h9) dX5_in_18
set_option maxHeartbeats 1000000 in
set_option maxRecDepth 100000 in
theorem mt_X5_has (l : Launch) (se : Int32) (k : Int32) : Met l yX5_has wsX5_has ({ frames := 0, cells := 0, slots := 0, locals := 0 }) (preS [.int se, .int k]) (vp_Si (fun r : Int32 => (r = 1 ∧ (se >>> (k &&& 31)) &&& 1 = 1) ∨ (r = 0 ∧ ¬ (se >>> (k &&& 31)) &&& 1 = 1))) 0 0 (fun _ => False) := by
  refine Met.ofW (cc := cX5_has) (maxL := 2) (ret := (some .boolean)) (by decide) rfl ?_
  intro p e s m args below meth c s₁ B hml hv
  obtain ⟨ha, -⟩ := hv
  subst ha
  have hx := B.exec
  have hb := B.bytes
  have hr := B.returns
  have hts := atoms_spec (ws := wsX5_has) B.pre
  have hown : s.vm.findClass RX5 = some m.cls := findClass_of_methodNamed B.named
  have hlocks := B.notSynchronized
  have hl := lv_entry ([.int se, .int k]) (n := 2) (Nat.le_of_ble_eq_true rfl)
  rw [lg_entry_eq]
  generalize (lg_sl ([.int se, .int k]) ++ List.replicate (2 - (lg_sl ([.int se, .int k])).length) Slot.unset).toArray = ls at hl ⊢
  have hl : lv_has ls 2 [(0, .int se), (1, .int k)] := hl
  refine lv_iload_n hx hb dX5_has_0 rfl (lv_at hl 0 rfl) ?_
  refine lv_iload_n hx hb dX5_has_1 rfl (lv_at hl 1 rfl) ?_
  refine lv_ishr hx hb dX5_has_2 ?_
  refine lv_iconst (v := (1 : Int32)) hx hb dX5_has_3 (by decide) ?_
  refine lv_iand hx hb dX5_has_4 ?_
  refine lv_iconst (v := (1 : Int32)) hx hb dX5_has_5 (by decide) ?_
  refine lv_icmp_ne (tgt := 13) hx hb dX5_has_6 (by decide) (fun c6 => ?_) (fun c6 => ?_)
  · skip
    refine lv_iconst (v := nI 0) hx hb dX5_has_13 (by decide) ?_
    exact W.zret (v := nI 0) hx hb hr (by decide) (fun t ht hW => ⟨nI 0, rfl, by first | exact Or.inl ⟨rfl, by assumption⟩ | exact Or.inr ⟨rfl, by assumption⟩, ht⟩) (fun _ h9 => by cases h9) dX5_has_14
  · skip
    refine lv_iconst (v := nI 1) hx hb dX5_has_9 (by decide) ?_
    refine lv_goto (tgt := 14) hx hb dX5_has_10 (by decide) ?_
    exact W.zret (v := nI 1) hx hb hr (by decide) (fun t ht hW => ⟨nI 1, rfl, by first | exact Or.inl ⟨rfl, by assumption⟩ | exact Or.inr ⟨rfl, by assumption⟩, ht⟩) (fun _ h9 => by cases h9) dX5_has_14
set_option maxHeartbeats 1000000 in
set_option maxRecDepth 100000 in
theorem mt_X5_isVersion (l : Launch) (G : gG) (h : Nat → Nat) (u : oS) (lt : Int64) (sj : Nat → Int64) (nv : Nat) (v : Int32) (hnv : u.1 0 = nI nv) (hnv24 : nv ≤ 24) : Met l yX5_isVersion wsX5_isVersion ({ frames := 1, cells := 0, slots := 0, locals := 25 }) (preR G (mw G h u lt sj) [.ref (h 0), .int v]) (vp_Si (fun r : Int32 => (r = 1 ∧ ∃ j, j < nv ∧ v = nI j) ∨ (r = 0 ∧ ∀ j, j < nv → v ≠ nI j))) 0 0 (fun _ => False) := by
  refine Met.ofW (cc := cX5_isVersion) (maxL := 2) (ret := (some .boolean)) (by decide) rfl ?_
  intro p e s m args below meth c s₁ B hml hv
  obtain ⟨ha, hP, hK, hN⟩ := hv
  subst ha
  have hx := B.exec
  have hb := B.bytes
  have hr := B.returns
  have hts := atoms_spec (ws := wsX5_isVersion) B.pre
  have hown : s.vm.findClass RX5 = some m.cls := findClass_of_methodNamed B.named
  have hlocks := B.notSynchronized
  have hiX5 : ∀ w ∈ wsX50, w ∈ wsX5_isVersion := fun w h9 => List.mem_cons_of_mem _ (List.mem_append_right _ (h9))
  have k91 := hts (.fieldLink RX5 91 "WovenHistoryModel" "versions" "I") (List.mem_of_getElem? (i := 1) rfl)
  have hl := lv_entry ([.ref (h 0), .int v]) (n := 2) (Nat.le_of_ble_eq_true rfl)
  rw [lg_entry_eq]
  generalize (lg_sl ([.ref (h 0), .int v]) ++ List.replicate (2 - (lg_sl ([.ref (h 0), .int v])).length) Slot.unset).toArray = ls at hl ⊢
  have hl : lv_has ls 2 [(0, .ref (h 0)), (1, .int v)] := hl
  refine lv_iload_n hx hb dX5_isVersion_0 rfl (lv_at hl 1 rfl) ?_
  refine lv_i2l (v := v.toInt64) hx hb dX5_isVersion_1 rfl ?_
  refine lv_lconst (v := 0) hx hb dX5_isVersion_2 (by decide) ?_
  refine lv_aload_n hx hb dX5_isVersion_3 rfl (lv_at hl 0 rfl) ?_
  refine va_get (D := gD G) (ci := 5) (v := .int (u.1 0)) (C := RX5) (T := TX5) (N := 38) hx hb hts hiX5 hown hK hP 0 rfl rfl 0 (by decide) k91 (fun _ h9 => h9) rfl dX5_isVersion_4 ?_
  refine topE hnv ?_
  refine lv_iconst (v := nI 1) hx hb dX5_isVersion_7 (by decide) ?_
  refine lv_isub hx hb dX5_isVersion_8 ?_
  refine lv_i2l (v := ((nI nv) - (nI 1)).toInt64) hx hb dX5_isVersion_9 rfl ?_
  refine cSi (As := [.long v.toInt64, .long 0, .long (((nI nv) - (nI 1)).toInt64)]) (rest := []) ⟨hx, hb, hml, hown, hts⟩ (mt_X5_in l v.toInt64 0 (((nI nv) - (nI 1)).toInt64)) (va_cwS 3 hts gX5_isVersion_X5_in rfl rfl rfl hd_X5_in ⟨Nat.le_of_ble_eq_true rfl, Nat.le_of_ble_eq_true rfl⟩) rfl hl.1 rfl (Nat.le_of_ble_eq_true rfl) ⟨Nat.zero_le _, Nat.zero_le _⟩ dX5_isVersion_10 (fun r10 hw10 => ?_)
  rcases hw10 with ⟨rfl, ha10, hb10⟩ | ⟨rfl, hn10⟩
  · skip
    exact W.zret (v := (1 : Int32)) hx hb hr (by decide) (fun t ht hW => ⟨(1 : Int32), rfl, by first | exact Or.inl ⟨rfl, isv_y (by omega) (by assumption) (by assumption)⟩ | exact Or.inr ⟨rfl, isv_n (by omega) (by assumption)⟩, ht⟩) (fun _ h9 => by cases h9) dX5_isVersion_13
  · skip
    exact W.zret (v := (0 : Int32)) hx hb hr (by decide) (fun t ht hW => ⟨(0 : Int32), rfl, by first | exact Or.inl ⟨rfl, isv_y (by omega) (by assumption) (by assumption)⟩ | exact Or.inr ⟨rfl, isv_n (by omega) (by assumption)⟩, ht⟩) (fun _ h9 => by cases h9) dX5_isVersion_13
set_option maxHeartbeats 1000000 in
set_option maxRecDepth 100000 in
theorem mt_X5_stands (l : Launch) (G : gG) (h : Nat → Nat) (u : oS) (lt : Int64) (sj : Nat → Int64) (i : Nat) (cs : Int32) (hi : i < 120) : Met l yX5_stands wsX5_stands ({ frames := 1, cells := 0, slots := 0, locals := 21 }) (preR G (mw G h u lt sj) [.ref (h 0), .int (nI i), .int cs]) (vp_Si (fun r : Int32 => (r = 1 ∧ sdb (u.2 6) (u.2 7) cs i = true) ∨ (r = 0 ∧ sdb (u.2 6) (u.2 7) cs i = false))) 0 0 (fun _ => False) := by
  refine Met.ofW (cc := cX5_stands) (maxL := 3) (ret := (some .boolean)) (by decide) rfl ?_
  intro p e s m args below meth c s₁ B hml hv
  obtain ⟨ha, hP, hK, hN⟩ := hv
  subst ha
  have hx := B.exec
  have hb := B.bytes
  have hr := B.returns
  have hts := atoms_spec (ws := wsX5_stands) B.pre
  have hown : s.vm.findClass RX5 = some m.cls := findClass_of_methodNamed B.named
  have hlocks := B.notSynchronized
  have hiX5 : ∀ w ∈ wsX50, w ∈ wsX5_stands := fun w h9 => List.mem_cons_of_mem _ (List.mem_append_right _ (h9))
  have k22 := hts (.fieldLink RX5 22 "WovenHistoryModel" "brought" "[I") (List.mem_of_getElem? (i := 1) rfl)
  have k25 := hts (.fieldLink RX5 25 "WovenHistoryModel" "took" "[I") (List.mem_of_getElem? (i := 2) rfl)
  have hl := lv_entry ([.ref (h 0), .int (nI i), .int cs]) (n := 3) (Nat.le_of_ble_eq_true rfl)
  rw [lg_entry_eq]
  generalize (lg_sl ([.ref (h 0), .int (nI i), .int cs]) ++ List.replicate (3 - (lg_sl ([.ref (h 0), .int (nI i), .int cs])).length) Slot.unset).toArray = ls at hl ⊢
  have hl : lv_has ls 3 [(0, .ref (h 0)), (1, .int (nI i)), (2, .int cs)] := hl
  refine lv_iload_n hx hb dX5_stands_0 rfl (lv_at hl 2 rfl) ?_
  refine lv_aload_n hx hb dX5_stands_1 rfl (lv_at hl 0 rfl) ?_
  refine va_get (D := gD G) (ci := 5) (v := .ref (h 6)) (C := RX5) (T := TX5) (N := 38) hx hb hts hiX5 hown hK hP 0 rfl rfl 6 (by decide) k22 (fun _ h9 => h9) rfl dX5_stands_2 ?_
  refine lv_iload_n hx hb dX5_stands_5 rfl (lv_at hl 1 rfl) ?_
  refine ialdN (f := u.2 6) (n := 120) (k := i) hx hb hK hP 5 rfl rfl (by omega) dX5_stands_6 ?_
  refine cSi (As := [.int cs, .int ((u.2 6) i)]) (rest := []) ⟨hx, hb, hml, hown, hts⟩ (mt_X5_has l cs ((u.2 6) i)) (va_cwS 2 hts gX5_stands_X5_has rfl rfl rfl hd_X5_has ⟨Nat.le_of_ble_eq_true rfl, Nat.le_of_ble_eq_true rfl⟩) rfl hl.1 rfl (Nat.le_of_ble_eq_true rfl) ⟨Nat.zero_le _, Nat.zero_le _⟩ dX5_stands_7 (fun r7 hw7 => ?_)
  rcases hw7 with ⟨rfl, hy7⟩ | ⟨rfl, hn7⟩
  · skip
    refine lv_if_eq (tgt := 28) hx hb dX5_stands_10 (by decide) (fun c9 => absurd c9 (by decide)) (fun _ => ?_)
    refine lv_aload_n hx hb dX5_stands_13 rfl (lv_at hl 0 rfl) ?_
    refine va_get (D := gD G) (ci := 5) (v := .ref (h 7)) (C := RX5) (T := TX5) (N := 38) hx hb hts hiX5 hown hK hP 0 rfl rfl 7 (by decide) k25 (fun _ h9 => h9) rfl dX5_stands_14 ?_
    refine lv_iload_n hx hb dX5_stands_17 rfl (lv_at hl 1 rfl) ?_
    refine ialdN (f := u.2 7) (n := 120) (k := i) hx hb hK hP 6 rfl rfl (by omega) dX5_stands_18 ?_
    refine lv_iload_n hx hb dX5_stands_19 rfl (lv_at hl 2 rfl) ?_
    refine lv_iand hx hb dX5_stands_20 ?_
    refine lv_if_ne (tgt := 28) hx hb dX5_stands_21 (by decide) (fun c21 => ?_) (fun c21 => ?_)
    · skip
      refine lv_iconst (v := nI 0) hx hb dX5_stands_28 (by decide) ?_
      exact W.zret (v := nI 0) hx hb hr (by decide) (fun t ht hW => ⟨nI 0, rfl, by first | exact Or.inl ⟨rfl, sdb_t (by assumption) (by assumption)⟩ | exact Or.inr ⟨rfl, sdb_f1 (by assumption)⟩ | exact Or.inr ⟨rfl, sdb_f2 (by assumption)⟩, ht⟩) (fun _ h9 => by cases h9) dX5_stands_29
    · skip
      refine lv_iconst (v := nI 1) hx hb dX5_stands_24 (by decide) ?_
      refine lv_goto (tgt := 29) hx hb dX5_stands_25 (by decide) ?_
      exact W.zret (v := nI 1) hx hb hr (by decide) (fun t ht hW => ⟨nI 1, rfl, by first | exact Or.inl ⟨rfl, sdb_t (by assumption) (by assumption)⟩ | exact Or.inr ⟨rfl, sdb_f1 (by assumption)⟩ | exact Or.inr ⟨rfl, sdb_f2 (by assumption)⟩, ht⟩) (fun _ h9 => by cases h9) dX5_stands_29
  · skip
    refine lv_if_eq (tgt := 28) hx hb dX5_stands_10 (by decide) (fun _ => ?_) (fun c9 => absurd (by decide) c9)
    refine lv_iconst (v := nI 0) hx hb dX5_stands_28 (by decide) ?_
    exact W.zret (v := nI 0) hx hb hr (by decide) (fun t ht hW => ⟨nI 0, rfl, by first | exact Or.inl ⟨rfl, sdb_t (by assumption) (by assumption)⟩ | exact Or.inr ⟨rfl, sdb_f1 (by assumption)⟩ | exact Or.inr ⟨rfl, sdb_f2 (by assumption)⟩, ht⟩) (fun _ h9 => by cases h9) dX5_stands_29
set_option maxHeartbeats 1000000 in
set_option maxRecDepth 100000 in
theorem mt_X5_manyOf (l : Launch) (G : gG) (h : Nat → Nat) (u : oS) (lt : Int64) (sj : Nat → Int64) (nl : Nat) (cs : Int32) (hnl : u.1 4 = nI nl) (hnl120 : nl ≤ 120) : Met l yX5_manyOf wsX5_manyOf ({ frames := 2, cells := 0, slots := 0, locals := 43 }) (preR G (mw G h u lt sj) [.ref (h 0), .int cs]) (vp_Si (fun r : Int32 => r = nI (cnt (sdb (u.2 6) (u.2 7) cs) nl))) 0 0 (fun _ => False) := by
  refine Met.ofW (cc := cX5_manyOf) (maxL := 4) (ret := (some .int)) (by decide) rfl ?_
  intro p e s m args below meth c s₁ B hml hv
  obtain ⟨ha, hP, hK, hN⟩ := hv
  subst ha
  have hx := B.exec
  have hb := B.bytes
  have hr := B.returns
  have hts := atoms_spec (ws := wsX5_manyOf) B.pre
  have hown : s.vm.findClass RX5 = some m.cls := findClass_of_methodNamed B.named
  have hlocks := B.notSynchronized
  have hiX5 : ∀ w ∈ wsX50, w ∈ wsX5_manyOf := fun w h9 => List.mem_cons_of_mem _ (List.mem_append_right _ (h9))
  have k175 := hts (.fieldLink RX5 175 "WovenHistoryModel" "lines" "I") (List.mem_of_getElem? (i := 1) rfl)
  have hl := lv_entry ([.ref (h 0), .int cs]) (n := 4) (Nat.le_of_ble_eq_true rfl)
  rw [lg_entry_eq]
  generalize (lg_sl ([.ref (h 0), .int cs]) ++ List.replicate (4 - (lg_sl ([.ref (h 0), .int cs])).length) Slot.unset).toArray = ls at hl ⊢
  have hl : lv_has ls 4 [(0, .ref (h 0)), (1, .int cs)] := hl
  refine lv_iconst (v := nI 0) hx hb dX5_manyOf_0 (by decide) ?_
  refine lv_istore_n (lv' := [(2, .int (nI 0)), (0, .ref (h 0)), (1, .int cs)]) hx hb dX5_manyOf_1 rfl hl (by decide) rfl (fun ls hl => ?_)
  refine lv_iconst (v := nI 0) hx hb dX5_manyOf_2 (by decide) ?_
  refine lv_istore_n (lv' := [(3, .int (nI 0)), (2, .int (nI 0)), (0, .ref (h 0)), (1, .int cs)]) hx hb dX5_manyOf_3 rfl hl (by decide) rfl (fun ls hl => ?_)
  have LP4 : ∀ (n4m : Nat), ∀ (k : Nat) (j : Nat) (hk : k ≤ nl) (hj : j = cnt (sdb (u.2 6) (u.2 7) cs) k) (hj2 : j ≤ k), (nl - k < n4m) → ∀ (ls : Array Slot), lv_has ls 4 [(0, .ref (h 0)), (1, .int cs), (2, .int (nI j)), (3, .int (nI k))] → W p l e (headSpec wsX5_manyOf ({ frames := 2, cells := 0, slots := 0, locals := 43 })).room s m ([.ref (h 0), .int cs] : List Value).toArray below meth c s.heap [] 0 0 (MQ below (vp_Si (fun r : Int32 => r = nI (cnt (sdb (u.2 6) (u.2 7) cs) nl))) ([.ref (h 0), .int cs] : List Value).toArray s 0 0 (fun _ => False)) (F0 m 4 ls []) := by
    intro n4m
    induction n4m with
    | zero => intro k j hk hj hj2 hmu ls hl; exact absurd hmu (Nat.not_lt_zero _)
    | succ n4m ih4 =>
      intro k j hk hj hj2 hmu ls hl
      refine lv_iload_n hx hb dX5_manyOf_4 rfl (lv_at hl 3 rfl) ?_
      refine lv_aload_n hx hb dX5_manyOf_5 rfl (lv_at hl 0 rfl) ?_
      refine va_get (D := gD G) (ci := 5) (v := .int (u.1 4)) (C := RX5) (T := TX5) (N := 38) hx hb hts hiX5 hown hK hP 0 rfl rfl 4 (by decide) k175 (fun _ h9 => h9) rfl dX5_manyOf_6 ?_
      refine topE hnl ?_
      refine lv_icmp_ge (tgt := 35) hx hb dX5_manyOf_9 (by decide) (fun c9 => ?_) (fun c9 => ?_)
      · skip
        have n9 : nl ≤ k := (nI_leI (a := nl) (b := k) (by omega) (by omega)).mp c9
        refine lv_iload_n hx hb dX5_manyOf_35 rfl (lv_at hl 2 rfl) ?_
        exact W.iret (v := nI j) hx hb hr (fun t ht hW => ⟨nI j, rfl, by rw [hj, show k = nl by omega], ht⟩) (fun _ h9 => by cases h9) dX5_manyOf_36
      · skip
        have n9 : ¬ (nl ≤ k) := fun q9 => c9 ((nI_leI (a := nl) (b := k) (by omega) (by omega)).mpr q9)
        refine lv_iload_n hx hb dX5_manyOf_12 rfl (lv_at hl 2 rfl) ?_
        refine lv_aload_n hx hb dX5_manyOf_13 rfl (lv_at hl 0 rfl) ?_
        refine lv_iload_n hx hb dX5_manyOf_14 rfl (lv_at hl 3 rfl) ?_
        refine lv_iload_n hx hb dX5_manyOf_15 rfl (lv_at hl 1 rfl) ?_
        refine cRi (w := mw G h u lt sj) (As := [.int (nI k), .int cs]) (rest := [.int (nI j)]) ⟨hx, hb, hml, hown, hts⟩ (mt_X5_stands l G h u lt sj k cs (by first | assumption | omega)) (cwV 2 hts gX5_manyOf_X5_stands rfl rfl rfl ⟨rfl, hd_X5_stands⟩ ⟨Nat.le_of_ble_eq_true rfl, Nat.le_of_ble_eq_true rfl⟩) hK hN hP 0 5 rfl rfl rfl hl.1 rfl (Nat.le_of_ble_eq_true rfl) ⟨Nat.zero_le _, Nat.zero_le _⟩ dX5_manyOf_16 (fun r16 hw16 => ?_)
        rcases hw16 with ⟨rfl, hy16⟩ | ⟨rfl, hn16⟩
        · skip
          refine lv_if_eq (tgt := 26) hx hb dX5_manyOf_19 (by decide) (fun c9 => absurd c9 (by decide)) (fun _ => ?_)
          refine lv_iconst (v := nI 1) hx hb dX5_manyOf_22 (by decide) ?_
          refine lv_goto (tgt := 27) hx hb dX5_manyOf_23 (by decide) ?_
          refine lv_iadd hx hb dX5_manyOf_27 ?_
          refine topE (y := nI (j + 1)) (nI_add j 1) ?_
          refine lv_istore_n (lv' := [(2, .int (nI (j + 1))), (0, .ref (h 0)), (1, .int cs), (3, .int (nI k))]) hx hb dX5_manyOf_28 rfl hl (by decide) rfl (fun ls hl => ?_)
          refine lv_iinc (v := nI (k + 1)) (lv' := [(3, .int (nI (k + 1))), (2, .int (nI (j + 1))), (0, .ref (h 0)), (1, .int cs)]) hx hb dX5_manyOf_29 hl (k := 3) rfl (nI_1 k) (by decide) rfl (fun ls hl => ?_)
          refine lv_goto (tgt := 4) hx hb dX5_manyOf_32 (by decide) ?_
          exact ih4 (k + 1) (j + 1) (by first | assumption | omega) (by first | rfl | (rw [cnt_t (by assumption)]; omega) | (rw [cnt_f (by assumption)]; omega)) (by first | assumption | omega) (by omega) ls (lv_sub hl [2, 3, 1, 0] rfl)
        · skip
          refine lv_if_eq (tgt := 26) hx hb dX5_manyOf_19 (by decide) (fun _ => ?_) (fun c9 => absurd (by decide) c9)
          refine lv_iconst (v := nI 0) hx hb dX5_manyOf_26 (by decide) ?_
          refine lv_iadd hx hb dX5_manyOf_27 ?_
          refine topE (y := nI (j + 0)) (nI_add j 0) ?_
          refine lv_istore_n (lv' := [(2, .int (nI (j + 0))), (0, .ref (h 0)), (1, .int cs), (3, .int (nI k))]) hx hb dX5_manyOf_28 rfl hl (by decide) rfl (fun ls hl => ?_)
          refine lv_iinc (v := nI (k + 1)) (lv' := [(3, .int (nI (k + 1))), (2, .int (nI (j + 0))), (0, .ref (h 0)), (1, .int cs)]) hx hb dX5_manyOf_29 hl (k := 3) rfl (nI_1 k) (by decide) rfl (fun ls hl => ?_)
          refine lv_goto (tgt := 4) hx hb dX5_manyOf_32 (by decide) ?_
          exact ih4 (k + 1) (j + 0) (by first | assumption | omega) (by first | rfl | (rw [cnt_t (by assumption)]; omega) | (rw [cnt_f (by assumption)]; omega)) (by first | assumption | omega) (by omega) ls (lv_sub hl [2, 3, 1, 0] rfl)
  exact LP4 (nl - 0 + 1) 0 0 (by first | assumption | omega) (by first | rfl | (rw [cnt_t (by assumption)]; omega) | (rw [cnt_f (by assumption)]; omega)) (by first | assumption | omega) (Nat.lt_succ_self _) ls (lv_sub hl [2, 3, 1, 0] rfl)
set_option maxHeartbeats 1000000 in
set_option maxRecDepth 100000 in
theorem mt_X5_lineAt (l : Launch) (G : gG) (h : Nat → Nat) (u : oS) (lt : Int64) (sj : Nat → Int64) (nl : Nat) (cs : Int32) (q : Nat) (hnl : u.1 4 = nI nl) (hnl120 : nl ≤ 120) (hq : q < 2147483648) : Met l yX5_lineAt wsX5_lineAt ({ frames := 2, cells := 0, slots := 0, locals := 43 }) (preR G (mw G h u lt sj) [.ref (h 0), .int cs, .int (nI q)]) (vp_Si (fun r : Int32 => (∃ i, i < nl ∧ sdb (u.2 6) (u.2 7) cs i = true ∧ cnt (sdb (u.2 6) (u.2 7) cs) i = q ∧ r = nI i) ∨ (cnt (sdb (u.2 6) (u.2 7) cs) nl ≤ q ∧ r = -1))) 0 0 (fun _ => False) := by
  refine Met.ofW (cc := cX5_lineAt) (maxL := 5) (ret := (some .int)) (by decide) rfl ?_
  intro p e s m args below meth c s₁ B hml hv
  obtain ⟨ha, hP, hK, hN⟩ := hv
  subst ha
  have hx := B.exec
  have hb := B.bytes
  have hr := B.returns
  have hts := atoms_spec (ws := wsX5_lineAt) B.pre
  have hown : s.vm.findClass RX5 = some m.cls := findClass_of_methodNamed B.named
  have hlocks := B.notSynchronized
  have hiX5 : ∀ w ∈ wsX50, w ∈ wsX5_lineAt := fun w h9 => List.mem_cons_of_mem _ (List.mem_append_right _ (h9))
  have k175 := hts (.fieldLink RX5 175 "WovenHistoryModel" "lines" "I") (List.mem_of_getElem? (i := 1) rfl)
  have hl := lv_entry ([.ref (h 0), .int cs, .int (nI q)]) (n := 5) (Nat.le_of_ble_eq_true rfl)
  rw [lg_entry_eq]
  generalize (lg_sl ([.ref (h 0), .int cs, .int (nI q)]) ++ List.replicate (5 - (lg_sl ([.ref (h 0), .int cs, .int (nI q)])).length) Slot.unset).toArray = ls at hl ⊢
  have hl : lv_has ls 5 [(0, .ref (h 0)), (1, .int cs), (2, .int (nI q))] := hl
  refine lv_iload_n hx hb dX5_lineAt_0 rfl (lv_at hl 2 rfl) ?_
  refine lv_istore_n (lv' := [(3, .int (nI q)), (0, .ref (h 0)), (1, .int cs), (2, .int (nI q))]) hx hb dX5_lineAt_1 rfl hl (by decide) rfl (fun ls hl => ?_)
  refine lv_iconst (v := nI 0) hx hb dX5_lineAt_2 (by decide) ?_
  refine lv_istore (lv' := [(4, .int (nI 0)), (3, .int (nI q)), (0, .ref (h 0)), (1, .int cs), (2, .int (nI q))]) hx hb dX5_lineAt_3 hl (by decide) rfl (fun ls hl => ?_)
  have LP5 : ∀ (n5m : Nat), ∀ (k : Nat) (j : Nat) (hk : k ≤ nl) (hj : j + cnt (sdb (u.2 6) (u.2 7) cs) k = q), (nl - k < n5m) → ∀ (ls : Array Slot), lv_has ls 5 [(0, .ref (h 0)), (1, .int cs), (3, .int (nI j)), (4, .int (nI k))] → W p l e (headSpec wsX5_lineAt ({ frames := 2, cells := 0, slots := 0, locals := 43 })).room s m ([.ref (h 0), .int cs, .int (nI q)] : List Value).toArray below meth c s.heap [] 0 0 (MQ below (vp_Si (fun r : Int32 => (∃ i, i < nl ∧ sdb (u.2 6) (u.2 7) cs i = true ∧ cnt (sdb (u.2 6) (u.2 7) cs) i = q ∧ r = nI i) ∨ (cnt (sdb (u.2 6) (u.2 7) cs) nl ≤ q ∧ r = -1))) ([.ref (h 0), .int cs, .int (nI q)] : List Value).toArray s 0 0 (fun _ => False)) (F0 m 5 ls []) := by
    intro n5m
    induction n5m with
    | zero => intro k j hk hj hmu ls hl; exact absurd hmu (Nat.not_lt_zero _)
    | succ n5m ih5 =>
      intro k j hk hj hmu ls hl
      refine lv_iload hx hb dX5_lineAt_5 (lv_at hl 3 rfl) ?_
      refine lv_aload_n hx hb dX5_lineAt_7 rfl (lv_at hl 0 rfl) ?_
      refine va_get (D := gD G) (ci := 5) (v := .int (u.1 4)) (C := RX5) (T := TX5) (N := 38) hx hb hts hiX5 hown hK hP 0 rfl rfl 4 (by decide) k175 (fun _ h9 => h9) rfl dX5_lineAt_8 ?_
      refine topE hnl ?_
      refine lv_icmp_ge (tgt := 40) hx hb dX5_lineAt_11 (by decide) (fun c11 => ?_) (fun c11 => ?_)
      · skip
        have n11 : nl ≤ k := (nI_leI (a := nl) (b := k) (by omega) (by omega)).mp c11
        refine lv_iconst (v := (-1 : Int32)) hx hb dX5_lineAt_40 (by decide) ?_
        exact W.iret (v := (-1 : Int32)) hx hb hr (fun t ht hW => ⟨(-1 : Int32), rfl, Or.inr ⟨by rw [← (show k = nl by omega)]; omega, rfl⟩, ht⟩) (fun _ h9 => by cases h9) dX5_lineAt_41
      · skip
        have n11 : ¬ (nl ≤ k) := fun q9 => c11 ((nI_leI (a := nl) (b := k) (by omega) (by omega)).mpr q9)
        refine lv_aload_n hx hb dX5_lineAt_14 rfl (lv_at hl 0 rfl) ?_
        refine lv_iload hx hb dX5_lineAt_15 (lv_at hl 3 rfl) ?_
        refine lv_iload_n hx hb dX5_lineAt_17 rfl (lv_at hl 1 rfl) ?_
        refine cRi (w := mw G h u lt sj) (As := [.int (nI k), .int cs]) (rest := []) ⟨hx, hb, hml, hown, hts⟩ (mt_X5_stands l G h u lt sj k cs (by first | assumption | omega)) (cwV 2 hts gX5_lineAt_X5_stands rfl rfl rfl ⟨rfl, hd_X5_stands⟩ ⟨Nat.le_of_ble_eq_true rfl, Nat.le_of_ble_eq_true rfl⟩) hK hN hP 0 5 rfl rfl rfl hl.1 rfl (Nat.le_of_ble_eq_true rfl) ⟨Nat.zero_le _, Nat.zero_le _⟩ dX5_lineAt_18 (fun r18 hw18 => ?_)
        rcases hw18 with ⟨rfl, hy18⟩ | ⟨rfl, hn18⟩
        · skip
          refine lv_if_eq (tgt := 34) hx hb dX5_lineAt_21 (by decide) (fun c9 => absurd c9 (by decide)) (fun _ => ?_)
          refine lv_iload_n hx hb dX5_lineAt_24 rfl (lv_at hl 2 rfl) ?_
          refine lv_if_ne (tgt := 31) hx hb dX5_lineAt_25 (by decide) (fun c25 => ?_) (fun c25 => ?_)
          · skip
            have n25 : ¬ (j = 0) := fun q9 => c25 ((nI_eq (a := j) (b := 0) (by omega) (by omega)).mpr q9)
            refine lv_iinc (v := nI (j - 1)) (lv' := [(3, .int (nI (j - 1))), (0, .ref (h 0)), (1, .int cs), (4, .int (nI k))]) hx hb dX5_lineAt_31 hl (k := 2) rfl (nI_dec j (by omega)) (by decide) rfl (fun ls hl => ?_)
            refine lv_iinc (v := nI (k + 1)) (lv' := [(4, .int (nI (k + 1))), (3, .int (nI (j - 1))), (0, .ref (h 0)), (1, .int cs)]) hx hb dX5_lineAt_34 hl (k := 3) rfl (nI_1 k) (by decide) rfl (fun ls hl => ?_)
            refine lv_goto (tgt := 5) hx hb dX5_lineAt_37 (by decide) ?_
            exact ih5 (k + 1) (j - 1) (by first | assumption | omega) (by first | rfl | (rw [cnt_t (by assumption)]; omega) | (rw [cnt_f (by assumption)]; omega)) (by omega) ls (lv_sub hl [2, 3, 1, 0] rfl)
          · skip
            have n25 : j = 0 := (nI_eq (a := j) (b := 0) (by omega) (by omega)).mp c25
            refine lv_iload hx hb dX5_lineAt_28 (lv_at hl 3 rfl) ?_
            exact W.iret (v := nI k) hx hb hr (fun t ht hW => ⟨nI k, rfl, Or.inl ⟨k, by omega, by assumption, by omega, rfl⟩, ht⟩) (fun _ h9 => by cases h9) dX5_lineAt_30
        · skip
          refine lv_if_eq (tgt := 34) hx hb dX5_lineAt_21 (by decide) (fun _ => ?_) (fun c9 => absurd (by decide) c9)
          refine lv_iinc (v := nI (k + 1)) (lv' := [(4, .int (nI (k + 1))), (0, .ref (h 0)), (1, .int cs), (3, .int (nI j))]) hx hb dX5_lineAt_34 hl (k := 3) rfl (nI_1 k) (by decide) rfl (fun ls hl => ?_)
          refine lv_goto (tgt := 5) hx hb dX5_lineAt_37 (by decide) ?_
          exact ih5 (k + 1) j (by first | assumption | omega) (by first | rfl | (rw [cnt_t (by assumption)]; omega) | (rw [cnt_f (by assumption)]; omega)) (by omega) ls (lv_sub hl [1, 2, 3, 0] rfl)
  exact LP5 (nl - 0 + 1) 0 q (by first | assumption | omega) (by first | rfl | (rw [cnt_t (by assumption)]; omega) | (rw [cnt_f (by assumption)]; omega)) (Nat.lt_succ_self _) ls (lv_sub hl [2, 3, 1, 0] rfl)
