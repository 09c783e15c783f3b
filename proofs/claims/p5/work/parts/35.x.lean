/-! the class: what it keeps to -/
def WI (w : oS) : Prop := ∃ nv nl, w.1 0 = nI nv ∧ nv ≤ 24 ∧ w.1 5 = nI nl ∧ nl ≤ 120
def XQ (x0 rd z : oS) (v : oS × oS × oS × oS × oS × oS × oS × oS × (Nat → Nat → Int64) × Int64) : Prop := ∃ x wn wa w0 w1 rd' wr z' jj lt, v = (x, wn, wa, w0, w1, rd', wr, z', jj, lt) ∧ WI wn ∧ WI wa ∧ WI w0 ∧ WI w1 ∧ rd'.1 1 = rd.1 1 ∧ z'.2 1 = z.2 1 ∧ rd'.2 0 = rd.2 0 ∧ x.1 8 = x0.1 8
theorem le_y {x : Int32} {n : Nat} (hn : n ≤ 100000) (h0 : ¬ x < 0) (h1 : x ≤ nI n) : ∃ j, j ≤ n ∧ x = nI j := by
  obtain ⟨j, h2, rfl⟩ := nI_of1 h0
  exact ⟨j, (nI_leI (a := j) (b := n) (by omega) (by omega)).mp h1, rfl⟩
theorem le_n1 {x : Int32} {n : Nat} (hn : n ≤ 100000) (h : x < 0) : ∀ j, j ≤ n → x ≠ nI j := by
  rintro j hj rfl
  exact nI_pos (by omega) h
theorem le_n2 {x : Int32} {n : Nat} (hn : n ≤ 100000) (h : ¬ x ≤ nI n) : ∀ j, j ≤ n → x ≠ nI j := by
  rintro j hj rfl
  exact h ((nI_leI (a := j) (b := n) (by omega) (by omega)).mpr hj)
theorem dr_y {x : Int32} (h1 : ¬ x < nI 1) (h2 : ¬ nI 24 < x) : ∃ j, j ≤ 24 ∧ x = nI j := by
  refine le_y (by omega) (fun q => h1 ?_) (Int32.not_lt.mp h2)
  rw [Int32.lt_iff_toInt_lt] at q ⊢
  have e0 : (0 : Int32).toInt = 0 := rfl
  have e1 : (nI 1).toInt = 1 := rfl
  omega
theorem lt_y {x : Int32} {n : Nat} (hn : n ≤ 100000) (h0 : ¬ x < 0) (h1 : x < nI n) : ∃ j, j < n ∧ x = nI j := by
  obtain ⟨j, h2, rfl⟩ := nI_of1 h0
  exact ⟨j, (nI_ltI (a := j) (b := n) (by omega) (by omega)).mp h1, rfl⟩

set_option maxHeartbeats 1000000 in
set_option maxRecDepth 100000 in
theorem mt_X4_fault (l : Launch) (G : gG) (h : Nat → Nat) (x : oS) (wn : oS) (wa : oS) (w0 : oS) (w1 : oS) (rd : oS) (wr : oS) (z : oS) (jj : Nat → Nat → Int64) (lt : Int64) (nv : Nat) (nl : Nat) (hnv : wn.1 0 = nI nv) (hnl : wn.1 5 = nI nl) (hnv24 : nv ≤ 24) (hnl120 : nl ≤ 120) : Met l yX4_fault wsX4_fault ({ frames := 0, cells := 0, slots := 0, locals := 0 }) (preR G (xw G h x wn wa w0 w1 rd wr z jj lt) [.ref (h 0)]) (vp_Si (fun r : Int32 => r = x.1 8)) 0 0 (fun _ => False) := by
  refine Met.ofW (cc := cX4_fault) (maxL := 1) (ret := (some .int)) (by decide) rfl ?_
  intro p e s m args below meth c s₁ B hml hv
  obtain ⟨ha, hP, hK, hN⟩ := hv
  subst ha
  have hx := B.exec
  have hb := B.bytes
  have hr := B.returns
  have hts := atoms_spec (ws := wsX4_fault) B.pre
  have hown : s.vm.findClass RX4 = some m.cls := findClass_of_methodNamed B.named
  have hlocks := B.notSynchronized
  have hiX4 : ∀ w ∈ wsX40, w ∈ wsX4_fault := fun w h9 => List.mem_cons_of_mem _ (List.mem_append_right _ (h9))
  have k52 := hts (.fieldLink RX4 52 "WovenHistory" "latestFaultAt" "I") (List.mem_of_getElem? (i := 1) rfl)
  have hl := lv_entry ([.ref (h 0)]) (n := 1) (Nat.le_of_ble_eq_true rfl)
  rw [lg_entry_eq]
  generalize (lg_sl ([.ref (h 0)]) ++ List.replicate (1 - (lg_sl ([.ref (h 0)])).length) Slot.unset).toArray = ls at hl ⊢
  have hl : lv_has ls 1 [(0, .ref (h 0))] := hl
  refine lv_aload_n hx hb dX4_fault_0 rfl (lv_at hl 0 rfl) ?_
  refine va_get (D := gD G) (ci := 4) (v := .int (x.1 8)) (C := RX4) (T := TX4) (N := 9) hx hb hts hiX4 hown hK hP 0 (xp_0 _ _ _ _ _ _ _ _ _ _ _ _) rfl 8 (by decide) k52 (fun _ h9 => h9) rfl dX4_fault_1 ?_
  exact W.iret (v := x.1 8) hx hb hr (fun t ht hW => ⟨x.1 8, rfl, rfl, ht⟩) (fun _ h9 => by cases h9) dX4_fault_4
set_option maxHeartbeats 1000000 in
set_option maxRecDepth 100000 in
theorem mt_X4_block (l : Launch) (G : gG) (h : Nat → Nat) (x : oS) (wn : oS) (wa : oS) (w0 : oS) (w1 : oS) (rd : oS) (wr : oS) (z : oS) (jj : Nat → Nat → Int64) (lt : Int64) (nv : Nat) (nl : Nat) (a : Int32) (b : Int32) (hnv : wn.1 0 = nI nv) (hnl : wn.1 5 = nI nl) (hnv24 : nv ≤ 24) (hnl120 : nl ≤ 120) : Met l yX4_block wsX4_block ({ frames := 2, cells := 0, slots := 0, locals := 44 }) (preR G (xw G h x wn wa w0 w1 rd wr z jj lt) [.ref (h 0), .int a, .int b]) (vp_Si (fun r : Int32 => True)) 0 0 (fun _ => False) := by
  refine Met.ofW (cc := cX4_block) (maxL := 4) (ret := (some .int)) (by decide) rfl ?_
  intro p e s m args below meth c s₁ B hml hv
  obtain ⟨ha, hP, hK, hN⟩ := hv
  subst ha
  have hx := B.exec
  have hb := B.bytes
  have hr := B.returns
  have hts := atoms_spec (ws := wsX4_block) B.pre
  have hown : s.vm.findClass RX4 = some m.cls := findClass_of_methodNamed B.named
  have hlocks := B.notSynchronized
  have hiX4 : ∀ w ∈ wsX40, w ∈ wsX4_block := fun w h9 => List.mem_cons_of_mem _ (List.mem_append_left _ (List.mem_append_right _ (h9)))
  have k10 := hts (.fieldLink RX4 10 "WovenHistory" "now" "LWovenHistory$Weave;") (List.mem_of_getElem? (i := 2) rfl)
  have hl := lv_entry ([.ref (h 0), .int a, .int b]) (n := 4) (Nat.le_of_ble_eq_true rfl)
  rw [lg_entry_eq]
  generalize (lg_sl ([.ref (h 0), .int a, .int b]) ++ List.replicate (4 - (lg_sl ([.ref (h 0), .int a, .int b])).length) Slot.unset).toArray = ls at hl ⊢
  have hl : lv_has ls 4 [(0, .ref (h 0)), (1, .int a), (2, .int b)] := hl
  refine lv_iload_n hx hb dX4_block_0 rfl (lv_at hl 1 rfl) ?_
  refine lv_if_lt (tgt := 13) hx hb dX4_block_1 (by decide) (fun c1 => ?_) (fun c1 => ?_)
  · skip
    refine lv_ldc (v := (-1000000002 : Int32)) hx hb hown (hts (.constant RX4 56 (-1000000002)) (List.mem_of_getElem? (i := 1) rfl)) dX4_block_13 ?_
    exact W.iret (v := (-1000000002 : Int32)) hx hb hr (fun t ht hW => ⟨(-1000000002 : Int32), rfl, by first | rfl | trivial | omega | assumption, ht⟩) (fun _ h9 => by cases h9) dX4_block_15
  · skip
    refine lv_iload_n hx hb dX4_block_4 rfl (lv_at hl 2 rfl) ?_
    refine lv_if_lt (tgt := 13) hx hb dX4_block_5 (by decide) (fun c5 => ?_) (fun c5 => ?_)
    · skip
      refine lv_ldc (v := (-1000000002 : Int32)) hx hb hown (hts (.constant RX4 56 (-1000000002)) (List.mem_of_getElem? (i := 1) rfl)) dX4_block_13 ?_
      exact W.iret (v := (-1000000002 : Int32)) hx hb hr (fun t ht hW => ⟨(-1000000002 : Int32), rfl, by first | rfl | trivial | omega | assumption, ht⟩) (fun _ h9 => by cases h9) dX4_block_15
    · skip
      refine lv_iload_n hx hb dX4_block_8 rfl (lv_at hl 2 rfl) ?_
      refine lv_iconst (v := nI 1) hx hb dX4_block_9 (by decide) ?_
      refine lv_icmp_le (tgt := 16) hx hb dX4_block_10 (by decide) (fun c10 => ?_) (fun c10 => ?_)
      · skip
        refine lv_aload_n hx hb dX4_block_16 rfl (lv_at hl 0 rfl) ?_
        refine va_get (D := gD G) (ci := 4) (v := .ref (h 10)) (C := RX4) (T := TX4) (N := 9) hx hb hts hiX4 hown hK hP 0 (xp_0 _ _ _ _ _ _ _ _ _ _ _ _) rfl 0 (by decide) k10 (fun _ h9 => h9) rfl dX4_block_17 ?_
        refine lv_iload_n hx hb dX4_block_20 rfl (lv_at hl 1 rfl) ?_
        refine cRi (w := wv G (fun k => h (10 + k)) wn) (As := [.int a]) (rest := []) ⟨hx, hb, hml, hown, hts⟩ (mt_X3_findBlock l G (fun k => h (10 + k)) wn nl a (hnl) (by first | assumption | omega)) (cwV 1 hts gX4_block_X3_findBlock rfl rfl rfl ⟨rfl, hd_X3_findBlock⟩ ⟨Nat.le_of_ble_eq_true rfl, Nat.le_of_ble_eq_true rfl⟩) hK hN (hP.sub [3, 4, 5, 6, 7, 8, 9, 10] (xf_now _ _ _ _ _ _ _ _ _ _ _ _)) 0 3 rfl rfl rfl hl.1 rfl (Nat.le_of_ble_eq_true rfl) ⟨Nat.zero_le _, Nat.zero_le _⟩ dX4_block_21 (fun r21 hw21 => ?_)
        rcases hw21 with ⟨i21, hi21, rfl⟩ | rfl
        · skip
          refine lv_istore_n (lv' := [(3, .int (nI (i21))), (0, .ref (h 0)), (1, .int a), (2, .int b)]) hx hb dX4_block_24 rfl hl (by decide) rfl (fun ls hl => ?_)
          refine lv_iload_n hx hb dX4_block_25 rfl (lv_at hl 0 rfl) ?_
          refine lv_iconst (v := (-1 : Int32)) hx hb dX4_block_26 (by decide) ?_
          refine lv_icmp_eq (tgt := 34) hx hb dX4_block_27 (by decide) (fun c9 => absurd c9 (nI_nm1 (by omega))) (fun _ => ?_)
          refine lv_iload_n hx hb dX4_block_30 rfl (lv_at hl 3 rfl) ?_
          refine lv_if_ne (tgt := 36) hx hb dX4_block_31 (by decide) (fun c31 => ?_) (fun c31 => ?_)
          · skip
            refine lv_aload_n hx hb dX4_block_36 rfl (lv_at hl 1 rfl) ?_
            refine va_get (D := gD G) (ci := 4) (v := .ref (h 10)) (C := RX4) (T := TX4) (N := 9) hx hb hts hiX4 hown hK hP 0 (xp_0 _ _ _ _ _ _ _ _ _ _ _ _) rfl 0 (by decide) k10 (fun _ h9 => h9) rfl dX4_block_37 ?_
            refine lv_iload_n hx hb dX4_block_40 rfl (lv_at hl 0 rfl) ?_
            refine cRi (w := wv G (fun k => h (10 + k)) wn) (As := [.int (nI (i21))]) (rest := []) ⟨hx, hb, hml, hown, hts⟩ (mt_X3_blockLength l G (fun k => h (10 + k)) wn nl i21 (hnl) (by first | assumption | omega) (by first | assumption | omega)) (cwV 1 hts gX4_block_X3_blockLength rfl rfl rfl ⟨rfl, hd_X3_blockLength⟩ ⟨Nat.le_of_ble_eq_true rfl, Nat.le_of_ble_eq_true rfl⟩) hK hN (hP.sub [3, 4, 5, 6, 7, 8, 9, 10] (xf_now _ _ _ _ _ _ _ _ _ _ _ _)) 0 3 rfl rfl rfl hl.1 rfl (Nat.le_of_ble_eq_true rfl) ⟨Nat.zero_le _, Nat.zero_le _⟩ dX4_block_41 (fun r41 hw41 => ?_)
            exact W.iret (v := r41) hx hb hr (fun t ht hW => ⟨r41, rfl, by first | rfl | trivial | omega | assumption, ht⟩) (fun _ h9 => by cases h9) dX4_block_44
          · skip
            refine lv_iload_n hx hb dX4_block_34 rfl (lv_at hl 0 rfl) ?_
            exact W.iret (v := nI (i21)) hx hb hr (fun t ht hW => ⟨nI (i21), rfl, by first | rfl | trivial | omega | assumption, ht⟩) (fun _ h9 => by cases h9) dX4_block_35
        · skip
          refine lv_istore_n (lv' := [(3, .int (-1 : Int32)), (0, .ref (h 0)), (1, .int a), (2, .int b)]) hx hb dX4_block_24 rfl hl (by decide) rfl (fun ls hl => ?_)
          refine lv_iload_n hx hb dX4_block_25 rfl (lv_at hl 0 rfl) ?_
          refine lv_iconst (v := (-1 : Int32)) hx hb dX4_block_26 (by decide) ?_
          refine lv_icmp_eq (tgt := 34) hx hb dX4_block_27 (by decide) (fun _ => ?_) (fun c9 => absurd (by decide) c9)
          refine lv_iload_n hx hb dX4_block_34 rfl (lv_at hl 0 rfl) ?_
          exact W.iret (v := (-1 : Int32)) hx hb hr (fun t ht hW => ⟨(-1 : Int32), rfl, by first | rfl | trivial | omega | assumption, ht⟩) (fun _ h9 => by cases h9) dX4_block_35
      · skip
        refine lv_ldc (v := (-1000000002 : Int32)) hx hb hown (hts (.constant RX4 56 (-1000000002)) (List.mem_of_getElem? (i := 1) rfl)) dX4_block_13 ?_
        exact W.iret (v := (-1000000002 : Int32)) hx hb hr (fun t ht hW => ⟨(-1000000002 : Int32), rfl, by first | rfl | trivial | omega | assumption, ht⟩) (fun _ h9 => by cases h9) dX4_block_15
def XW (z : oS) (v : oS × oS × oS × oS × oS × oS × oS × oS × (Nat → Nat → Int64) × Int64) : Prop := ∃ x wn wa w0 w1 rd' wr z' jj lt, v = (x, wn, wa, w0, w1, rd', wr, z', jj, lt) ∧ WI wn ∧ WI wa ∧ WI w0 ∧ WI w1 ∧ rd'.1 1 = nI 0 ∧ z'.2 1 = z.2 1

