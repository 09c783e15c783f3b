/-! the class: what it keeps to -/
def WI (w : oS) : Prop := ∃ nv nl, w.1 0 = nI nv ∧ nv ≤ 24 ∧ w.1 5 = nI nl ∧ nl ≤ 120
def XQ (rd z : oS) (v : oS × oS × oS × oS × oS × oS × oS × oS × (Nat → Nat → Int64) × Int64) : Prop := ∃ x wn wa w0 w1 rd' wr z' jj lt, v = (x, wn, wa, w0, w1, rd', wr, z', jj, lt) ∧ WI wn ∧ WI wa ∧ WI w0 ∧ WI w1 ∧ rd'.1 1 = rd.1 1 ∧ z'.2 1 = z.2 1
theorem le_y {x : Int32} {n : Nat} (hn : n ≤ 100000) (h0 : ¬ x < 0) (h1 : x ≤ nI n) : ∃ j, j ≤ n ∧ x = nI j := by
  obtain ⟨j, h2, rfl⟩ := nI_of1 h0
  exact ⟨j, (nI_leI (a := j) (b := n) (by omega) (by omega)).mp h1, rfl⟩
theorem le_n1 {x : Int32} {n : Nat} (hn : n ≤ 100000) (h : x < 0) : ∀ j, j ≤ n → x ≠ nI j := by
  rintro j hj rfl
  exact nI_pos (by omega) h
theorem le_n2 {x : Int32} {n : Nat} (hn : n ≤ 100000) (h : ¬ x ≤ nI n) : ∀ j, j ≤ n → x ≠ nI j := by
  rintro j hj rfl
  exact h ((nI_leI (a := j) (b := n) (by omega) (by omega)).mpr hj)
theorem dr_y {x : Int32} (h1 : ¬ x < nI 1) (h2 : ¬ nI 24 < x) : ∃ j, j ≤ 24 ∧ x = nI j := by
  refine le_y (by omega) (fun q => h1 ?_) (Int32.not_lt.mp h2)
  rw [Int32.lt_iff_toInt_lt] at q ⊢
  have e0 : (0 : Int32).toInt = 0 := rfl
  have e1 : (nI 1).toInt = 1 := rfl
  omega
theorem lt_y {x : Int32} {n : Nat} (hn : n ≤ 100000) (h0 : ¬ x < 0) (h1 : x < nI n) : ∃ j, j < n ∧ x = nI j := by
  obtain ⟨j, h2, rfl⟩ := nI_of1 h0
  exact ⟨j, (nI_ltI (a := j) (b := n) (by omega) (by omega)).mp h1, rfl⟩

set_option maxHeartbeats 1000000 in
set_option maxRecDepth 100000 in
theorem mt_X4_openChanges (l : Launch) (G : gG) (h : Nat → Nat) (x : oS) (wn : oS) (wa : oS) (w0 : oS) (w1 : oS) (rd : oS) (wr : oS) (z : oS) (jj : Nat → Nat → Int64) (lt : Int64) (nv : Nat) (nl : Nat) (hnv : wn.1 0 = nI nv) (hnl : wn.1 5 = nI nl) (hnv24 : nv ≤ 24) (hnl120 : nl ≤ 120) : Met l yX4_openChanges wsX4_openChanges ({ frames := 1, cells := 0, slots := 0, locals := 21 }) (preR G (xw G h x wn wa w0 w1 rd wr z jj lt) [.ref (h 0)]) (vp_Si (fun r : Int32 => True)) 0 0 (fun _ => False) := by
  refine Met.ofW (cc := cX4_openChanges) (maxL := 1) (ret := (some .int)) (by decide) rfl ?_
  intro p e s m args below meth c s₁ B hml hv
  obtain ⟨ha, hP, hK, hN⟩ := hv
  subst ha
  have hx := B.exec
  have hb := B.bytes
  have hr := B.returns
  have hts := atoms_spec (ws := wsX4_openChanges) B.pre
  have hown : s.vm.findClass RX4 = some m.cls := findClass_of_methodNamed B.named
  have hlocks := B.notSynchronized
  have hiX4 : ∀ w ∈ wsX40, w ∈ wsX4_openChanges := by decide +kernel
  have k10 := hts (.fieldLink RX4 10 "WovenHistory" "now" "LWovenHistory$Weave;") (List.mem_of_getElem? (i := 1) rfl)
  have hiX3 : ∀ w ∈ wsX30, w ∈ wsX4_openChanges := by decide +kernel
  have k82 : (Cond.fieldLinkNest "WovenHistory" 82 "WovenHistory$Weave" "versions" "I" "WovenHistory").before _ s = true := va_Nw.use (A := ([.ref (h 0)] : List Value).toArray) rfl (hN.1 ("WovenHistory", 82, "WovenHistory$Weave", "versions", "I") (List.mem_of_getElem? (i := 12) rfl))
  have hl := lv_entry ([.ref (h 0)]) (n := 1) (Nat.le_of_ble_eq_true rfl)
  rw [lg_entry_eq]
  generalize (lg_sl ([.ref (h 0)]) ++ List.replicate (1 - (lg_sl ([.ref (h 0)])).length) Slot.unset).toArray = ls at hl ⊢
  have hl : lv_has ls 1 [(0, .ref (h 0))] := hl
  refine lv_aload_n hx hb dX4_openChanges_0 rfl (lv_at hl 0 rfl) ?_
  refine va_get (D := gD G) (ci := 4) (v := .ref (h 10)) (C := RX4) (T := TX4) (N := 9) hx hb hts hiX4 hown hK hP 0 rfl rfl 0 (by decide) k10 (fun _ h9 => h9) rfl dX4_openChanges_1 ?_
  refine lv_aload_n hx hb dX4_openChanges_4 rfl (lv_at hl 0 rfl) ?_
  refine va_get (D := gD G) (ci := 4) (v := .ref (h 10)) (C := RX4) (T := TX4) (N := 9) hx hb hts hiX4 hown hK hP 0 rfl rfl 0 (by decide) k10 (fun _ h9 => h9) rfl dX4_openChanges_5 ?_
  refine va_getN (D := gD G) (ci := 3) (v := .int (wn.1 0)) (C := RX3) (T := TX3) (N := 9) hx hb hts hiX3 hown hK hP 3 rfl rfl 0 (by decide) k82 (fun _ h9 => h9) rfl dX4_openChanges_8 ?_
  refine topE hnv ?_
  refine cRi (w := wv G (fun k => h (10 + k)) wn) (As := [.int (nI nv)]) (rest := []) ⟨hx, hb, hml, hown, hts⟩ (mt_X3_changesOf l G (fun k => h (10 + k)) wn (nI nv)) (cwV 1 hts gX4_openChanges_X3_changesOf rfl rfl rfl (by decide +kernel) ⟨Nat.le_of_ble_eq_true rfl, Nat.le_of_ble_eq_true rfl⟩) hK hN (hP.sub [3, 4, 5, 6, 7, 8, 9, 10] rfl) 0 3 rfl rfl rfl hl.1 rfl (Nat.le_of_ble_eq_true rfl) ⟨Nat.zero_le _, Nat.zero_le _⟩ dX4_openChanges_11 (fun r11 hw11 => ?_)
  exact W.iret (v := r11) hx hb hr (fun t ht hW => ⟨r11, rfl, by first | rfl | trivial | omega | assumption, ht⟩) (fun _ h9 => by cases h9) dX4_openChanges_14
set_option maxHeartbeats 1000000 in
set_option maxRecDepth 100000 in
theorem mt_X4_openLines (l : Launch) (G : gG) (h : Nat → Nat) (x : oS) (wn : oS) (wa : oS) (w0 : oS) (w1 : oS) (rd : oS) (wr : oS) (z : oS) (jj : Nat → Nat → Int64) (lt : Int64) (nv : Nat) (nl : Nat) (hnv : wn.1 0 = nI nv) (hnl : wn.1 5 = nI nl) (hnv24 : nv ≤ 24) (hnl120 : nl ≤ 120) : Met l yX4_openLines wsX4_openLines ({ frames := 3, cells := 0, slots := 0, locals := 67 }) (preR G (xw G h x wn wa w0 w1 rd wr z jj lt) [.ref (h 0)]) (vp_Si (fun r : Int32 => ∃ n, n ≤ 120 ∧ r = nI n)) 0 0 (fun _ => False) := by
  refine Met.ofW (cc := cX4_openLines) (maxL := 1) (ret := (some .int)) (by decide) rfl ?_
  intro p e s m args below meth c s₁ B hml hv
  obtain ⟨ha, hP, hK, hN⟩ := hv
  subst ha
  have hx := B.exec
  have hb := B.bytes
  have hr := B.returns
  have hts := atoms_spec (ws := wsX4_openLines) B.pre
  have hown : s.vm.findClass RX4 = some m.cls := findClass_of_methodNamed B.named
  have hlocks := B.notSynchronized
  have hiX4 : ∀ w ∈ wsX40, w ∈ wsX4_openLines := by decide +kernel
  have k10 := hts (.fieldLink RX4 10 "WovenHistory" "now" "LWovenHistory$Weave;") (List.mem_of_getElem? (i := 1) rfl)
  have hl := lv_entry ([.ref (h 0)]) (n := 1) (Nat.le_of_ble_eq_true rfl)
  rw [lg_entry_eq]
  generalize (lg_sl ([.ref (h 0)]) ++ List.replicate (1 - (lg_sl ([.ref (h 0)])).length) Slot.unset).toArray = ls at hl ⊢
  have hl : lv_has ls 1 [(0, .ref (h 0))] := hl
  refine lv_aload_n hx hb dX4_openLines_0 rfl (lv_at hl 0 rfl) ?_
  refine va_get (D := gD G) (ci := 4) (v := .ref (h 10)) (C := RX4) (T := TX4) (N := 9) hx hb hts hiX4 hown hK hP 0 rfl rfl 0 (by decide) k10 (fun _ h9 => h9) rfl dX4_openLines_1 ?_
  refine lv_aload_n hx hb dX4_openLines_4 rfl (lv_at hl 0 rfl) ?_
  refine cRi (w := xw G h x wn wa w0 w1 rd wr z jj lt) (As := []) (rest := [.ref (h 10)]) ⟨hx, hb, hml, hown, hts⟩ (mt_X4_openChanges l G h x wn wa w0 w1 rd wr z jj lt nv nl (hnv) (hnl) (by first | assumption | omega) (by first | assumption | omega)) (cwV 0 hts gX4_openLines_X4_openChanges rfl rfl rfl (by decide +kernel) ⟨Nat.le_of_ble_eq_true rfl, Nat.le_of_ble_eq_true rfl⟩) hK hN hP 0 4 rfl rfl rfl hl.1 rfl (Nat.le_of_ble_eq_true rfl) ⟨Nat.zero_le _, Nat.zero_le _⟩ dX4_openLines_5 (fun r5 hw5 => ?_)
  refine cRi (w := wv G (fun k => h (10 + k)) wn) (As := [.int r5]) (rest := []) ⟨hx, hb, hml, hown, hts⟩ (mt_X3_countStanding l G (fun k => h (10 + k)) wn nl r5 (hnl) (by first | assumption | omega)) (cwV 1 hts gX4_openLines_X3_countStanding rfl rfl rfl (by decide +kernel) ⟨Nat.le_of_ble_eq_true rfl, Nat.le_of_ble_eq_true rfl⟩) hK hN (hP.sub [3, 4, 5, 6, 7, 8, 9, 10] rfl) 0 3 rfl rfl rfl hl.1 rfl (Nat.le_of_ble_eq_true rfl) ⟨Nat.zero_le _, Nat.zero_le _⟩ dX4_openLines_8 (fun r8 hw8 => ?_)
  obtain rfl := hw8
  have hc8 := cnt_le (sdb (wn.2 7) (wn.2 8) r5) nl
  exact W.iret (v := nI (cnt (sdb (wn.2 7) (wn.2 8) r5) nl)) hx hb hr (fun t ht hW => ⟨nI (cnt (sdb (wn.2 7) (wn.2 8) r5) nl), rfl, ⟨_, by omega, rfl⟩, ht⟩) (fun _ h9 => by cases h9) dX4_openLines_11
set_option maxHeartbeats 1000000 in
set_option maxRecDepth 100000 in
theorem mt_X4_areTwoVersions (l : Launch) (G : gG) (h : Nat → Nat) (x : oS) (wn : oS) (wa : oS) (w0 : oS) (w1 : oS) (rd : oS) (wr : oS) (z : oS) (jj : Nat → Nat → Int64) (lt : Int64) (nv : Nat) (nl : Nat) (a : Int32) (b : Int32) (hnv : wn.1 0 = nI nv) (hnl : wn.1 5 = nI nl) (hnv24 : nv ≤ 24) (hnl120 : nl ≤ 120) : Met l yX4_areTwoVersions wsX4_areTwoVersions ({ frames := 1, cells := 0, slots := 0, locals := 21 }) (preR G (xw G h x wn wa w0 w1 rd wr z jj lt) [.ref (h 0), .int a, .int b]) (vp_Si (fun r : Int32 => (r = 1 ∧ (∃ j, j < nv ∧ a = nI j) ∧ (∃ j, j < nv ∧ b = nI j)) ∨ r = 0)) 0 0 (fun _ => False) := by
  refine Met.ofW (cc := cX4_areTwoVersions) (maxL := 3) (ret := (some .boolean)) (by decide) rfl ?_
  intro p e s m args below meth c s₁ B hml hv
  obtain ⟨ha, hP, hK, hN⟩ := hv
  subst ha
  have hx := B.exec
  have hb := B.bytes
  have hr := B.returns
  have hts := atoms_spec (ws := wsX4_areTwoVersions) B.pre
  have hown : s.vm.findClass RX4 = some m.cls := findClass_of_methodNamed B.named
  have hlocks := B.notSynchronized
  have hiX4 : ∀ w ∈ wsX40, w ∈ wsX4_areTwoVersions := by decide +kernel
  have k10 := hts (.fieldLink RX4 10 "WovenHistory" "now" "LWovenHistory$Weave;") (List.mem_of_getElem? (i := 1) rfl)
  have hl := lv_entry ([.ref (h 0), .int a, .int b]) (n := 3) (Nat.le_of_ble_eq_true rfl)
  rw [lg_entry_eq]
  generalize (lg_sl ([.ref (h 0), .int a, .int b]) ++ List.replicate (3 - (lg_sl ([.ref (h 0), .int a, .int b])).length) Slot.unset).toArray = ls at hl ⊢
  have hl : lv_has ls 3 [(0, .ref (h 0)), (1, .int a), (2, .int b)] := hl
  refine lv_iload_n hx hb dX4_areTwoVersions_0 rfl (lv_at hl 1 rfl) ?_
  refine lv_iload_n hx hb dX4_areTwoVersions_1 rfl (lv_at hl 2 rfl) ?_
  refine lv_icmp_eq (tgt := 31) hx hb dX4_areTwoVersions_2 (by decide) (fun c2 => ?_) (fun c2 => ?_)
  · skip
    refine lv_iconst (v := nI 0) hx hb dX4_areTwoVersions_31 (by decide) ?_
    exact W.zret (v := nI 0) hx hb hr (by decide) (fun t ht hW => ⟨nI 0, rfl, by first | exact Or.inr rfl | exact Or.inl ⟨rfl, ⟨_, hj10, ej10⟩, ⟨_, hj21, ej21⟩⟩, ht⟩) (fun _ h9 => by cases h9) dX4_areTwoVersions_32
  · skip
    refine lv_aload_n hx hb dX4_areTwoVersions_5 rfl (lv_at hl 0 rfl) ?_
    refine va_get (D := gD G) (ci := 4) (v := .ref (h 10)) (C := RX4) (T := TX4) (N := 9) hx hb hts hiX4 hown hK hP 0 rfl rfl 0 (by decide) k10 (fun _ h9 => h9) rfl dX4_areTwoVersions_6 ?_
    refine lv_iload_n hx hb dX4_areTwoVersions_9 rfl (lv_at hl 1 rfl) ?_
    refine cRi (w := wv G (fun k => h (10 + k)) wn) (As := [.int a]) (rest := []) ⟨hx, hb, hml, hown, hts⟩ (mt_X3_hasVersion l G (fun k => h (10 + k)) wn nv a (hnv) (by first | assumption | omega)) (cwV 1 hts gX4_areTwoVersions_X3_hasVersion rfl rfl rfl (by decide +kernel) ⟨Nat.le_of_ble_eq_true rfl, Nat.le_of_ble_eq_true rfl⟩) hK hN (hP.sub [3, 4, 5, 6, 7, 8, 9, 10] rfl) 0 3 rfl rfl rfl hl.1 rfl (Nat.le_of_ble_eq_true rfl) ⟨Nat.zero_le _, Nat.zero_le _⟩ dX4_areTwoVersions_10 (fun r10 hw10 => ?_)
    rcases hw10 with ⟨rfl, j10, hj10, ej10⟩ | ⟨rfl, hn10⟩
    · skip
      refine lv_if_eq (tgt := 31) hx hb dX4_areTwoVersions_13 (by decide) (fun c9 => absurd c9 (by decide)) (fun _ => ?_)
      refine lv_aload_n hx hb dX4_areTwoVersions_16 rfl (lv_at hl 0 rfl) ?_
      refine va_get (D := gD G) (ci := 4) (v := .ref (h 10)) (C := RX4) (T := TX4) (N := 9) hx hb hts hiX4 hown hK hP 0 rfl rfl 0 (by decide) k10 (fun _ h9 => h9) rfl dX4_areTwoVersions_17 ?_
      refine lv_iload_n hx hb dX4_areTwoVersions_20 rfl (lv_at hl 2 rfl) ?_
      refine cRi (w := wv G (fun k => h (10 + k)) wn) (As := [.int b]) (rest := []) ⟨hx, hb, hml, hown, hts⟩ (mt_X3_hasVersion l G (fun k => h (10 + k)) wn nv b (hnv) (by first | assumption | omega)) (cwV 1 hts gX4_areTwoVersions_X3_hasVersion rfl rfl rfl (by decide +kernel) ⟨Nat.le_of_ble_eq_true rfl, Nat.le_of_ble_eq_true rfl⟩) hK hN (hP.sub [3, 4, 5, 6, 7, 8, 9, 10] rfl) 0 3 rfl rfl rfl hl.1 rfl (Nat.le_of_ble_eq_true rfl) ⟨Nat.zero_le _, Nat.zero_le _⟩ dX4_areTwoVersions_21 (fun r21 hw21 => ?_)
      rcases hw21 with ⟨rfl, j21, hj21, ej21⟩ | ⟨rfl, hn21⟩
      · skip
        refine lv_if_eq (tgt := 31) hx hb dX4_areTwoVersions_24 (by decide) (fun c9 => absurd c9 (by decide)) (fun _ => ?_)
        refine lv_iconst (v := nI 1) hx hb dX4_areTwoVersions_27 (by decide) ?_
        refine lv_goto (tgt := 32) hx hb dX4_areTwoVersions_28 (by decide) ?_
        exact W.zret (v := nI 1) hx hb hr (by decide) (fun t ht hW => ⟨nI 1, rfl, by first | exact Or.inr rfl | exact Or.inl ⟨rfl, ⟨_, hj10, ej10⟩, ⟨_, hj21, ej21⟩⟩, ht⟩) (fun _ h9 => by cases h9) dX4_areTwoVersions_32
      · skip
        refine lv_if_eq (tgt := 31) hx hb dX4_areTwoVersions_24 (by decide) (fun _ => ?_) (fun c9 => absurd (by decide) c9)
        refine lv_iconst (v := nI 0) hx hb dX4_areTwoVersions_31 (by decide) ?_
        exact W.zret (v := nI 0) hx hb hr (by decide) (fun t ht hW => ⟨nI 0, rfl, by first | exact Or.inr rfl | exact Or.inl ⟨rfl, ⟨_, hj10, ej10⟩, ⟨_, hj21, ej21⟩⟩, ht⟩) (fun _ h9 => by cases h9) dX4_areTwoVersions_32
    · skip
      refine lv_if_eq (tgt := 31) hx hb dX4_areTwoVersions_13 (by decide) (fun _ => ?_) (fun c9 => absurd (by decide) c9)
      refine lv_iconst (v := nI 0) hx hb dX4_areTwoVersions_31 (by decide) ?_
      exact W.zret (v := nI 0) hx hb hr (by decide) (fun t ht hW => ⟨nI 0, rfl, by first | exact Or.inr rfl | exact Or.inl ⟨rfl, ⟨_, hj10, ej10⟩, ⟨_, hj21, ej21⟩⟩, ht⟩) (fun _ h9 => by cases h9) dX4_areTwoVersions_32
set_option maxHeartbeats 1000000 in
set_option maxRecDepth 100000 in
theorem mt_X4_fault (l : Launch) (G : gG) (h : Nat → Nat) (x : oS) (wn : oS) (wa : oS) (w0 : oS) (w1 : oS) (rd : oS) (wr : oS) (z : oS) (jj : Nat → Nat → Int64) (lt : Int64) (nv : Nat) (nl : Nat) (hnv : wn.1 0 = nI nv) (hnl : wn.1 5 = nI nl) (hnv24 : nv ≤ 24) (hnl120 : nl ≤ 120) : Met l yX4_fault wsX4_fault ({ frames := 0, cells := 0, slots := 0, locals := 0 }) (preR G (xw G h x wn wa w0 w1 rd wr z jj lt) [.ref (h 0)]) (vp_Si (fun r : Int32 => True)) 0 0 (fun _ => False) := by
  refine Met.ofW (cc := cX4_fault) (maxL := 1) (ret := (some .int)) (by decide) rfl ?_
  intro p e s m args below meth c s₁ B hml hv
  obtain ⟨ha, hP, hK, hN⟩ := hv
  subst ha
  have hx := B.exec
  have hb := B.bytes
  have hr := B.returns
  have hts := atoms_spec (ws := wsX4_fault) B.pre
  have hown : s.vm.findClass RX4 = some m.cls := findClass_of_methodNamed B.named
  have hlocks := B.notSynchronized
  have hiX4 : ∀ w ∈ wsX40, w ∈ wsX4_fault := by decide +kernel
  have k52 := hts (.fieldLink RX4 52 "WovenHistory" "latestFaultAt" "I") (List.mem_of_getElem? (i := 1) rfl)
  have hl := lv_entry ([.ref (h 0)]) (n := 1) (Nat.le_of_ble_eq_true rfl)
  rw [lg_entry_eq]
  generalize (lg_sl ([.ref (h 0)]) ++ List.replicate (1 - (lg_sl ([.ref (h 0)])).length) Slot.unset).toArray = ls at hl ⊢
  have hl : lv_has ls 1 [(0, .ref (h 0))] := hl
  refine lv_aload_n hx hb dX4_fault_0 rfl (lv_at hl 0 rfl) ?_
  refine va_get (D := gD G) (ci := 4) (v := .int (x.1 8)) (C := RX4) (T := TX4) (N := 9) hx hb hts hiX4 hown hK hP 0 rfl rfl 8 (by decide) k52 (fun _ h9 => h9) rfl dX4_fault_1 ?_
  exact W.iret (v := x.1 8) hx hb hr (fun t ht hW => ⟨x.1 8, rfl, by first | rfl | trivial | omega | assumption, ht⟩) (fun _ h9 => by cases h9) dX4_fault_4
set_option maxHeartbeats 1000000 in
set_option maxRecDepth 100000 in
theorem mt_X4_told (l : Launch) (G : gG) (h : Nat → Nat) (x : oS) (wn : oS) (wa : oS) (w0 : oS) (w1 : oS) (rd : oS) (wr : oS) (z : oS) (jj : Nat → Nat → Int64) (lt : Int64) (nv : Nat) (nl : Nat) (what : Int32) (hnv : wn.1 0 = nI nv) (hnl : wn.1 5 = nI nl) (hnv24 : nv ≤ 24) (hnl120 : nl ≤ 120) : Met l yX4_told wsX4_told ({ frames := 4, cells := 0, slots := 0, locals := 87 }) (preR G (xw G h x wn wa w0 w1 rd wr z jj lt) [.ref (h 0), .int what]) (vp_Si (fun r : Int32 => True)) 0 0 (fun _ => False) := by
  refine Met.ofW (cc := cX4_told) (maxL := 2) (ret := (some .int)) (by decide) rfl ?_
  intro p e s m args below meth c s₁ B hml hv
  obtain ⟨ha, hP, hK, hN⟩ := hv
  subst ha
  have hx := B.exec
  have hb := B.bytes
  have hr := B.returns
  have hts := atoms_spec (ws := wsX4_told) B.pre
  have hown : s.vm.findClass RX4 = some m.cls := findClass_of_methodNamed B.named
  have hlocks := B.notSynchronized
  have hiX4 : ∀ w ∈ wsX40, w ∈ wsX4_told := by decide +kernel
  have k10 := hts (.fieldLink RX4 10 "WovenHistory" "now" "LWovenHistory$Weave;") (List.mem_of_getElem? (i := 1) rfl)
  have hiX3 : ∀ w ∈ wsX30, w ∈ wsX4_told := by decide +kernel
  have k82 : (Cond.fieldLinkNest "WovenHistory" 82 "WovenHistory$Weave" "versions" "I" "WovenHistory").before _ s = true := va_Nw.use (A := ([.ref (h 0), .int what] : List Value).toArray) rfl (hN.1 ("WovenHistory", 82, "WovenHistory$Weave", "versions", "I") (List.mem_of_getElem? (i := 12) rfl))
  have k85 : (Cond.fieldLinkNest "WovenHistory" 85 "WovenHistory$Weave" "lines" "I" "WovenHistory").before _ s = true := va_Nw.use (A := ([.ref (h 0), .int what] : List Value).toArray) rfl (hN.1 ("WovenHistory", 85, "WovenHistory$Weave", "lines", "I") (List.mem_of_getElem? (i := 13) rfl))
  have k48 := hts (.fieldLink RX4 48 "WovenHistory" "opened" "Z") (List.mem_of_getElem? (i := 2) rfl)
  have k30 := hts (.fieldLink RX4 30 "WovenHistory" "reader" "LWovenHistory$Reader;") (List.mem_of_getElem? (i := 3) rfl)
  have hiX1 : ∀ w ∈ wsX10, w ∈ wsX4_told := by decide +kernel
  have k61 : (Cond.fieldLinkNest "WovenHistory" 61 "WovenHistory$Reader" "length" "I" "WovenHistory").before _ s = true := va_Nw.use (A := ([.ref (h 0), .int what] : List Value).toArray) rfl (hN.1 ("WovenHistory", 61, "WovenHistory$Reader", "length", "I") (List.mem_of_getElem? (i := 9) rfl))
  have k37 := hts (.fieldLink RX4 37 "WovenHistory" "sheets" "LWovenHistory$Sheets;") (List.mem_of_getElem? (i := 4) rfl)
  have hl := lv_entry ([.ref (h 0), .int what]) (n := 2) (Nat.le_of_ble_eq_true rfl)
  rw [lg_entry_eq]
  generalize (lg_sl ([.ref (h 0), .int what]) ++ List.replicate (2 - (lg_sl ([.ref (h 0), .int what])).length) Slot.unset).toArray = ls at hl ⊢
  have hl : lv_has ls 2 [(0, .ref (h 0)), (1, .int what)] := hl
  refine lv_iload_n hx hb dX4_told_0 rfl (lv_at hl 1 rfl) ?_
  by_cases q1_0 : what = 0
  · skip
    subst q1_0
    refine lv_tableIn (tgt := 56) hx hb dX4_told_1 (by decide) (by decide) rfl (by decide) ?_
    refine lv_aload_n hx hb dX4_told_56 rfl (lv_at hl 0 rfl) ?_
    refine va_get (D := gD G) (ci := 4) (v := .ref (h 10)) (C := RX4) (T := TX4) (N := 9) hx hb hts hiX4 hown hK hP 0 rfl rfl 0 (by decide) k10 (fun _ h9 => h9) rfl dX4_told_57 ?_
    refine va_getN (D := gD G) (ci := 3) (v := .int (wn.1 0)) (C := RX3) (T := TX3) (N := 9) hx hb hts hiX3 hown hK hP 3 rfl rfl 0 (by decide) k82 (fun _ h9 => h9) rfl dX4_told_60 ?_
    refine topE hnv ?_
    exact W.iret (v := nI nv) hx hb hr (fun t ht hW => ⟨nI nv, rfl, by first | rfl | trivial | omega | assumption, ht⟩) (fun _ h9 => by cases h9) dX4_told_63
  by_cases q1_1 : what = 1
  · skip
    subst q1_1
    refine lv_tableIn (tgt := 64) hx hb dX4_told_1 (by decide) (by decide) rfl (by decide) ?_
    refine lv_aload_n hx hb dX4_told_64 rfl (lv_at hl 0 rfl) ?_
    refine va_get (D := gD G) (ci := 4) (v := .ref (h 10)) (C := RX4) (T := TX4) (N := 9) hx hb hts hiX4 hown hK hP 0 rfl rfl 0 (by decide) k10 (fun _ h9 => h9) rfl dX4_told_65 ?_
    refine va_getN (D := gD G) (ci := 3) (v := .int (wn.1 5)) (C := RX3) (T := TX3) (N := 9) hx hb hts hiX3 hown hK hP 3 rfl rfl 5 (by decide) k85 (fun _ h9 => h9) rfl dX4_told_68 ?_
    refine topE hnl ?_
    exact W.iret (v := nI nl) hx hb hr (fun t ht hW => ⟨nI nl, rfl, by first | rfl | trivial | omega | assumption, ht⟩) (fun _ h9 => by cases h9) dX4_told_71
  by_cases q1_2 : what = 2
  · skip
    subst q1_2
    refine lv_tableIn (tgt := 72) hx hb dX4_told_1 (by decide) (by decide) rfl (by decide) ?_
    refine lv_aload_n hx hb dX4_told_72 rfl (lv_at hl 0 rfl) ?_
    refine va_get (D := gD G) (ci := 4) (v := .int (x.1 7)) (C := RX4) (T := TX4) (N := 9) hx hb hts hiX4 hown hK hP 0 rfl rfl 7 (by decide) k48 (fun _ h9 => h9) rfl dX4_told_73 ?_
    refine lv_if_eq (tgt := 96) hx hb dX4_told_76 (by decide) (fun c76 => ?_) (fun c76 => ?_)
    · skip
      refine lv_iconst (v := (-1 : Int32)) hx hb dX4_told_96 (by decide) ?_
      exact W.iret (v := (-1 : Int32)) hx hb hr (fun t ht hW => ⟨(-1 : Int32), rfl, by first | rfl | trivial | omega | assumption, ht⟩) (fun _ h9 => by cases h9) dX4_told_97
    · skip
      refine lv_aload_n hx hb dX4_told_79 rfl (lv_at hl 0 rfl) ?_
      refine va_get (D := gD G) (ci := 4) (v := .ref (h 10)) (C := RX4) (T := TX4) (N := 9) hx hb hts hiX4 hown hK hP 0 rfl rfl 0 (by decide) k10 (fun _ h9 => h9) rfl dX4_told_80 ?_
      refine lv_aload_n hx hb dX4_told_83 rfl (lv_at hl 0 rfl) ?_
      refine va_get (D := gD G) (ci := 4) (v := .ref (h 10)) (C := RX4) (T := TX4) (N := 9) hx hb hts hiX4 hown hK hP 0 rfl rfl 0 (by decide) k10 (fun _ h9 => h9) rfl dX4_told_84 ?_
      refine va_getN (D := gD G) (ci := 3) (v := .int (wn.1 0)) (C := RX3) (T := TX3) (N := 9) hx hb hts hiX3 hown hK hP 3 rfl rfl 0 (by decide) k82 (fun _ h9 => h9) rfl dX4_told_87 ?_
      refine topE hnv ?_
      refine cRi (w := wv G (fun k => h (10 + k)) wn) (As := [.int (nI nv)]) (rest := []) ⟨hx, hb, hml, hown, hts⟩ (mt_X3_parentOf l G (fun k => h (10 + k)) wn (nI nv)) (cwV 1 hts gX4_told_X3_parentOf rfl rfl rfl (by decide +kernel) ⟨Nat.le_of_ble_eq_true rfl, Nat.le_of_ble_eq_true rfl⟩) hK hN (hP.sub [3, 4, 5, 6, 7, 8, 9, 10] rfl) 0 3 rfl rfl rfl hl.1 rfl (Nat.le_of_ble_eq_true rfl) ⟨Nat.zero_le _, Nat.zero_le _⟩ dX4_told_90 (fun r90 hw90 => ?_)
      refine lv_goto (tgt := 97) hx hb dX4_told_93 (by decide) ?_
      exact W.iret (v := r90) hx hb hr (fun t ht hW => ⟨r90, rfl, by first | rfl | trivial | omega | assumption, ht⟩) (fun _ h9 => by cases h9) dX4_told_97
  by_cases q1_3 : what = 3
  · skip
    subst q1_3
    refine lv_tableIn (tgt := 98) hx hb dX4_told_1 (by decide) (by decide) rfl (by decide) ?_
    refine lv_aload_n hx hb dX4_told_98 rfl (lv_at hl 0 rfl) ?_
    refine va_get (D := gD G) (ci := 4) (v := .int (x.1 7)) (C := RX4) (T := TX4) (N := 9) hx hb hts hiX4 hown hK hP 0 rfl rfl 7 (by decide) k48 (fun _ h9 => h9) rfl dX4_told_99 ?_
    refine lv_if_eq (tgt := 109) hx hb dX4_told_102 (by decide) (fun c102 => ?_) (fun c102 => ?_)
    · skip
      refine lv_iconst (v := nI 0) hx hb dX4_told_109 (by decide) ?_
      exact W.iret (v := nI 0) hx hb hr (fun t ht hW => ⟨nI 0, rfl, by first | rfl | trivial | omega | assumption, ht⟩) (fun _ h9 => by cases h9) dX4_told_110
    · skip
      refine lv_iconst (v := nI 1) hx hb dX4_told_105 (by decide) ?_
      refine lv_goto (tgt := 110) hx hb dX4_told_106 (by decide) ?_
      exact W.iret (v := nI 1) hx hb hr (fun t ht hW => ⟨nI 1, rfl, by first | rfl | trivial | omega | assumption, ht⟩) (fun _ h9 => by cases h9) dX4_told_110
  by_cases q1_4 : what = 4
  · skip
    subst q1_4
    refine lv_tableIn (tgt := 111) hx hb dX4_told_1 (by decide) (by decide) rfl (by decide) ?_
    refine lv_aload_n hx hb dX4_told_111 rfl (lv_at hl 0 rfl) ?_
    refine va_get (D := gD G) (ci := 4) (v := .int (x.1 7)) (C := RX4) (T := TX4) (N := 9) hx hb hts hiX4 hown hK hP 0 rfl rfl 7 (by decide) k48 (fun _ h9 => h9) rfl dX4_told_112 ?_
    refine lv_if_eq (tgt := 125) hx hb dX4_told_115 (by decide) (fun c115 => ?_) (fun c115 => ?_)
    · skip
      refine lv_iconst (v := nI 0) hx hb dX4_told_125 (by decide) ?_
      exact W.iret (v := nI 0) hx hb hr (fun t ht hW => ⟨nI 0, rfl, by first | rfl | trivial | omega | assumption, ht⟩) (fun _ h9 => by cases h9) dX4_told_126
    · skip
      refine lv_aload_n hx hb dX4_told_118 rfl (lv_at hl 0 rfl) ?_
      refine cRi (w := xw G h x wn wa w0 w1 rd wr z jj lt) (As := []) (rest := []) ⟨hx, hb, hml, hown, hts⟩ (mt_X4_openLines l G h x wn wa w0 w1 rd wr z jj lt nv nl (hnv) (hnl) (by first | assumption | omega) (by first | assumption | omega)) (cwV 0 hts gX4_told_X4_openLines rfl rfl rfl (by decide +kernel) ⟨Nat.le_of_ble_eq_true rfl, Nat.le_of_ble_eq_true rfl⟩) hK hN hP 0 4 rfl rfl rfl hl.1 rfl (Nat.le_of_ble_eq_true rfl) ⟨Nat.zero_le _, Nat.zero_le _⟩ dX4_told_119 (fun r119 hw119 => ?_)
      obtain ⟨n119, hn119, rfl⟩ := hw119
      refine lv_goto (tgt := 126) hx hb dX4_told_122 (by decide) ?_
      exact W.iret (v := nI (n119)) hx hb hr (fun t ht hW => ⟨nI (n119), rfl, by first | rfl | trivial | omega | assumption, ht⟩) (fun _ h9 => by cases h9) dX4_told_126
  by_cases q1_5 : what = 5
  · skip
    subst q1_5
    refine lv_tableIn (tgt := 127) hx hb dX4_told_1 (by decide) (by decide) rfl (by decide) ?_
    refine lv_aload_n hx hb dX4_told_127 rfl (lv_at hl 0 rfl) ?_
    refine va_get (D := gD G) (ci := 4) (v := .ref (h 10)) (C := RX4) (T := TX4) (N := 9) hx hb hts hiX4 hown hK hP 0 rfl rfl 0 (by decide) k10 (fun _ h9 => h9) rfl dX4_told_128 ?_
    refine cRi (w := wv G (fun k => h (10 + k)) wn) (As := []) (rest := []) ⟨hx, hb, hml, hown, hts⟩ (mt_X3_countBlocks l G (fun k => h (10 + k)) wn nl (hnl) (by first | assumption | omega)) (cwV 0 hts gX4_told_X3_countBlocks rfl rfl rfl (by decide +kernel) ⟨Nat.le_of_ble_eq_true rfl, Nat.le_of_ble_eq_true rfl⟩) hK hN (hP.sub [3, 4, 5, 6, 7, 8, 9, 10] rfl) 0 3 rfl rfl rfl hl.1 rfl (Nat.le_of_ble_eq_true rfl) ⟨Nat.zero_le _, Nat.zero_le _⟩ dX4_told_131 (fun r131 hw131 => ?_)
    exact W.iret (v := r131) hx hb hr (fun t ht hW => ⟨r131, rfl, by first | rfl | trivial | omega | assumption, ht⟩) (fun _ h9 => by cases h9) dX4_told_134
  by_cases q1_6 : what = 6
  · skip
    subst q1_6
    refine lv_tableIn (tgt := 135) hx hb dX4_told_1 (by decide) (by decide) rfl (by decide) ?_
    refine lv_aload_n hx hb dX4_told_135 rfl (lv_at hl 0 rfl) ?_
    refine va_get (D := gD G) (ci := 4) (v := .ref (h 10)) (C := RX4) (T := TX4) (N := 9) hx hb hts hiX4 hown hK hP 0 rfl rfl 0 (by decide) k10 (fun _ h9 => h9) rfl dX4_told_136 ?_
    refine cRi (w := wv G (fun k => h (10 + k)) wn) (As := []) (rest := []) ⟨hx, hb, hml, hown, hts⟩ (mt_X3_greatestNesting l G (fun k => h (10 + k)) wn nl (hnl) (by first | assumption | omega)) (cwV 0 hts gX4_told_X3_greatestNesting rfl rfl rfl (by decide +kernel) ⟨Nat.le_of_ble_eq_true rfl, Nat.le_of_ble_eq_true rfl⟩) hK hN (hP.sub [3, 4, 5, 6, 7, 8, 9, 10] rfl) 0 3 rfl rfl rfl hl.1 rfl (Nat.le_of_ble_eq_true rfl) ⟨Nat.zero_le _, Nat.zero_le _⟩ dX4_told_139 (fun r139 hw139 => ?_)
    exact W.iret (v := r139) hx hb hr (fun t ht hW => ⟨r139, rfl, by first | rfl | trivial | omega | assumption, ht⟩) (fun _ h9 => by cases h9) dX4_told_142
  by_cases q1_7 : what = 7
  · skip
    subst q1_7
    refine lv_tableIn (tgt := 143) hx hb dX4_told_1 (by decide) (by decide) rfl (by decide) ?_
    refine lv_aload_n hx hb dX4_told_143 rfl (lv_at hl 0 rfl) ?_
    refine va_get (D := gD G) (ci := 4) (v := .ref (h 10)) (C := RX4) (T := TX4) (N := 9) hx hb hts hiX4 hown hK hP 0 rfl rfl 0 (by decide) k10 (fun _ h9 => h9) rfl dX4_told_144 ?_
    refine cRi (w := wv G (fun k => h (10 + k)) wn) (As := []) (rest := []) ⟨hx, hb, hml, hown, hts⟩ (mt_X3_countGone l G (fun k => h (10 + k)) wn nv nl (hnv) (hnl) (by first | assumption | omega) (by first | assumption | omega)) (cwV 0 hts gX4_told_X3_countGone rfl rfl rfl (by decide +kernel) ⟨Nat.le_of_ble_eq_true rfl, Nat.le_of_ble_eq_true rfl⟩) hK hN (hP.sub [3, 4, 5, 6, 7, 8, 9, 10] rfl) 0 3 rfl rfl rfl hl.1 rfl (Nat.le_of_ble_eq_true rfl) ⟨Nat.zero_le _, Nat.zero_le _⟩ dX4_told_147 (fun r147 hw147 => ?_)
    exact W.iret (v := r147) hx hb hr (fun t ht hW => ⟨r147, rfl, by first | rfl | trivial | omega | assumption, ht⟩) (fun _ h9 => by cases h9) dX4_told_150
  by_cases q1_8 : what = 8
  · skip
    subst q1_8
    refine lv_tableIn (tgt := 151) hx hb dX4_told_1 (by decide) (by decide) rfl (by decide) ?_
    refine lv_aload_n hx hb dX4_told_151 rfl (lv_at hl 0 rfl) ?_
    refine va_get (D := gD G) (ci := 4) (v := .ref (h 50)) (C := RX4) (T := TX4) (N := 9) hx hb hts hiX4 hown hK hP 0 rfl rfl 4 (by decide) k30 (fun _ h9 => h9) rfl dX4_told_152 ?_
    refine va_getN (D := gD G) (ci := 1) (v := .int (rd.1 1)) (C := RX1) (T := TX1) (N := 10) hx hb hts hiX1 hown hK hP 35 rfl rfl 1 (by decide) k61 (fun _ h9 => h9) rfl dX4_told_155 ?_
    exact W.iret (v := rd.1 1) hx hb hr (fun t ht hW => ⟨rd.1 1, rfl, by first | rfl | trivial | omega | assumption, ht⟩) (fun _ h9 => by cases h9) dX4_told_158
  by_cases q1_9 : what = 9
  · skip
    subst q1_9
    refine lv_tableIn (tgt := 159) hx hb dX4_told_1 (by decide) (by decide) rfl (by decide) ?_
    refine lv_aload_n hx hb dX4_told_159 rfl (lv_at hl 0 rfl) ?_
    refine va_get (D := gD G) (ci := 4) (v := .ref (h 70)) (C := RX4) (T := TX4) (N := 9) hx hb hts hiX4 hown hK hP 0 rfl rfl 5 (by decide) k37 (fun _ h9 => h9) rfl dX4_told_160 ?_
    refine cRi (w := sv G (fun k => h (70 + k)) z jj) (As := []) (rest := []) ⟨hx, hb, hml, hown, hts⟩ (mt_X2_countThere l G (fun k => h (70 + k)) z jj) (cwV 0 hts gX4_told_X2_countThere rfl rfl rfl (by decide +kernel) ⟨Nat.le_of_ble_eq_true rfl, Nat.le_of_ble_eq_true rfl⟩) hK hN (hP.sub [47, 48, 49, 50, 51, 52, 53] rfl) 0 2 rfl rfl rfl hl.1 rfl (Nat.le_of_ble_eq_true rfl) ⟨Nat.zero_le _, Nat.zero_le _⟩ dX4_told_163 (fun r163 hw163 => ?_)
    exact W.iret (v := r163) hx hb hr (fun t ht hW => ⟨r163, rfl, by first | rfl | trivial | omega | assumption, ht⟩) (fun _ h9 => by cases h9) dX4_told_166
  have t1_0 : ¬ what.toInt = 0 := lv_neT q1_0 rfl
  have t1_1 : ¬ what.toInt = 1 := lv_neT q1_1 rfl
  have t1_2 : ¬ what.toInt = 2 := lv_neT q1_2 rfl
  have t1_3 : ¬ what.toInt = 3 := lv_neT q1_3 rfl
  have t1_4 : ¬ what.toInt = 4 := lv_neT q1_4 rfl
  have t1_5 : ¬ what.toInt = 5 := lv_neT q1_5 rfl
  have t1_6 : ¬ what.toInt = 6 := lv_neT q1_6 rfl
  have t1_7 : ¬ what.toInt = 7 := lv_neT q1_7 rfl
  have t1_8 : ¬ what.toInt = 8 := lv_neT q1_8 rfl
  have t1_9 : ¬ what.toInt = 9 := lv_neT q1_9 rfl
  refine lv_tableOut (tgt := 167) hx hb dX4_told_1 (by omega) (by decide) ?_
  refine lv_ldc (v := (-1000000002 : Int32)) hx hb hown (hts (.constant RX4 56 (-1000000002)) (List.mem_of_getElem? (i := 5) rfl)) dX4_told_167 ?_
  exact W.iret (v := (-1000000002 : Int32)) hx hb hr (fun t ht hW => ⟨(-1000000002 : Int32), rfl, by first | rfl | trivial | omega | assumption, ht⟩) (fun _ h9 => by cases h9) dX4_told_169
set_option maxHeartbeats 1000000 in
set_option maxRecDepth 100000 in
theorem mt_X4_version (l : Launch) (G : gG) (h : Nat → Nat) (x : oS) (wn : oS) (wa : oS) (w0 : oS) (w1 : oS) (rd : oS) (wr : oS) (z : oS) (jj : Nat → Nat → Int64) (lt : Int64) (nv : Nat) (nl : Nat) (a : Int32) (what : Int32) (hnv : wn.1 0 = nI nv) (hnl : wn.1 5 = nI nl) (hnv24 : nv ≤ 24) (hnl120 : nl ≤ 120) : Met l yX4_version wsX4_version ({ frames := 3, cells := 0, slots := 0, locals := 67 }) (preR G (xw G h x wn wa w0 w1 rd wr z jj lt) [.ref (h 0), .int a, .int what]) (vp_Si (fun r : Int32 => True)) 0 0 (fun _ => False) := by
  refine Met.ofW (cc := cX4_version) (maxL := 3) (ret := (some .int)) (by decide) rfl ?_
  intro p e s m args below meth c s₁ B hml hv
  obtain ⟨ha, hP, hK, hN⟩ := hv
  subst ha
  have hx := B.exec
  have hb := B.bytes
  have hr := B.returns
  have hts := atoms_spec (ws := wsX4_version) B.pre
  have hown : s.vm.findClass RX4 = some m.cls := findClass_of_methodNamed B.named
  have hlocks := B.notSynchronized
  have hiX4 : ∀ w ∈ wsX40, w ∈ wsX4_version := by decide +kernel
  have k10 := hts (.fieldLink RX4 10 "WovenHistory" "now" "LWovenHistory$Weave;") (List.mem_of_getElem? (i := 1) rfl)
  have hiX3 : ∀ w ∈ wsX30, w ∈ wsX4_version := by decide +kernel
  have k111 : (Cond.fieldLinkNest "WovenHistory" 111 "WovenHistory$Weave" "from" "[I" "WovenHistory").before _ s = true := va_Nw.use (A := ([.ref (h 0), .int a, .int what] : List Value).toArray) rfl (hN.1 ("WovenHistory", 111, "WovenHistory$Weave", "from", "[I") (List.mem_of_getElem? (i := 0) rfl))
  have k115 : (Cond.fieldLinkNest "WovenHistory" 115 "WovenHistory$Weave" "changes" "[I" "WovenHistory").before _ s = true := va_Nw.use (A := ([.ref (h 0), .int a, .int what] : List Value).toArray) rfl (hN.1 ("WovenHistory", 115, "WovenHistory$Weave", "changes", "[I") (List.mem_of_getElem? (i := 1) rfl))
  have k118 : (Cond.fieldLinkNest "WovenHistory" 118 "WovenHistory$Weave" "included" "[I" "WovenHistory").before _ s = true := va_Nw.use (A := ([.ref (h 0), .int a, .int what] : List Value).toArray) rfl (hN.1 ("WovenHistory", 118, "WovenHistory$Weave", "included", "[I") (List.mem_of_getElem? (i := 2) rfl))
  have k121 : (Cond.fieldLinkNest "WovenHistory" 121 "WovenHistory$Weave" "excluded" "[I" "WovenHistory").before _ s = true := va_Nw.use (A := ([.ref (h 0), .int a, .int what] : List Value).toArray) rfl (hN.1 ("WovenHistory", 121, "WovenHistory$Weave", "excluded", "[I") (List.mem_of_getElem? (i := 3) rfl))
  have hl := lv_entry ([.ref (h 0), .int a, .int what]) (n := 3) (Nat.le_of_ble_eq_true rfl)
  rw [lg_entry_eq]
  generalize (lg_sl ([.ref (h 0), .int a, .int what]) ++ List.replicate (3 - (lg_sl ([.ref (h 0), .int a, .int what])).length) Slot.unset).toArray = ls at hl ⊢
  have hl : lv_has ls 3 [(0, .ref (h 0)), (1, .int a), (2, .int what)] := hl
  refine lv_aload_n hx hb dX4_version_0 rfl (lv_at hl 0 rfl) ?_
  refine va_get (D := gD G) (ci := 4) (v := .ref (h 10)) (C := RX4) (T := TX4) (N := 9) hx hb hts hiX4 hown hK hP 0 rfl rfl 0 (by decide) k10 (fun _ h9 => h9) rfl dX4_version_1 ?_
  refine lv_iload_n hx hb dX4_version_4 rfl (lv_at hl 1 rfl) ?_
  refine cRi (w := wv G (fun k => h (10 + k)) wn) (As := [.int a]) (rest := []) ⟨hx, hb, hml, hown, hts⟩ (mt_X3_hasVersion l G (fun k => h (10 + k)) wn nv a (hnv) (by first | assumption | omega)) (cwV 1 hts gX4_version_X3_hasVersion rfl rfl rfl (by decide +kernel) ⟨Nat.le_of_ble_eq_true rfl, Nat.le_of_ble_eq_true rfl⟩) hK hN (hP.sub [3, 4, 5, 6, 7, 8, 9, 10] rfl) 0 3 rfl rfl rfl hl.1 rfl (Nat.le_of_ble_eq_true rfl) ⟨Nat.zero_le _, Nat.zero_le _⟩ dX4_version_5 (fun r5 hw5 => ?_)
  rcases hw5 with ⟨rfl, a1, ha1, rfl⟩ | ⟨rfl, hna1⟩
  · skip
    refine lv_if_ne (tgt := 14) hx hb dX4_version_8 (by decide) (fun _ => ?_) (fun c9 => absurd c9 (by decide))
    refine lv_iload_n hx hb dX4_version_14 rfl (lv_at hl 2 rfl) ?_
    by_cases q15_0 : what = 0
    · skip
      subst q15_0
      refine lv_tableIn (tgt := 56) hx hb dX4_version_15 (by decide) (by decide) rfl (by decide) ?_
      refine lv_aload_n hx hb dX4_version_56 rfl (lv_at hl 0 rfl) ?_
      refine va_get (D := gD G) (ci := 4) (v := .ref (h 10)) (C := RX4) (T := TX4) (N := 9) hx hb hts hiX4 hown hK hP 0 rfl rfl 0 (by decide) k10 (fun _ h9 => h9) rfl dX4_version_57 ?_
      refine va_getN (D := gD G) (ci := 3) (v := .ref (h 11)) (C := RX3) (T := TX3) (N := 9) hx hb hts hiX3 hown hK hP 3 rfl rfl 1 (by decide) k111 (fun _ h9 => h9) rfl dX4_version_60 ?_
      refine lv_iload_n hx hb dX4_version_63 rfl (lv_at hl 1 rfl) ?_
      refine ialdN (f := wn.2 1) (n := 24) (k := a1) hx hb hK hP 4 rfl rfl (by omega) dX4_version_64 ?_
      exact W.iret (v := (wn.2 1) a1) hx hb hr (fun t ht hW => ⟨(wn.2 1) a1, rfl, by first | rfl | trivial | omega | assumption, ht⟩) (fun _ h9 => by cases h9) dX4_version_65
    by_cases q15_1 : what = 1
    · skip
      subst q15_1
      refine lv_tableIn (tgt := 66) hx hb dX4_version_15 (by decide) (by decide) rfl (by decide) ?_
      refine lv_aload_n hx hb dX4_version_66 rfl (lv_at hl 0 rfl) ?_
      refine va_get (D := gD G) (ci := 4) (v := .ref (h 10)) (C := RX4) (T := TX4) (N := 9) hx hb hts hiX4 hown hK hP 0 rfl rfl 0 (by decide) k10 (fun _ h9 => h9) rfl dX4_version_67 ?_
      refine va_getN (D := gD G) (ci := 3) (v := .ref (h 14)) (C := RX3) (T := TX3) (N := 9) hx hb hts hiX3 hown hK hP 3 rfl rfl 4 (by decide) k115 (fun _ h9 => h9) rfl dX4_version_70 ?_
      refine lv_iload_n hx hb dX4_version_73 rfl (lv_at hl 1 rfl) ?_
      refine ialdN (f := wn.2 4) (n := 24) (k := a1) hx hb hK hP 7 rfl rfl (by omega) dX4_version_74 ?_
      exact W.iret (v := (wn.2 4) a1) hx hb hr (fun t ht hW => ⟨(wn.2 4) a1, rfl, by first | rfl | trivial | omega | assumption, ht⟩) (fun _ h9 => by cases h9) dX4_version_75
    by_cases q15_2 : what = 2
    · skip
      subst q15_2
      refine lv_tableIn (tgt := 76) hx hb dX4_version_15 (by decide) (by decide) rfl (by decide) ?_
      refine lv_aload_n hx hb dX4_version_76 rfl (lv_at hl 0 rfl) ?_
      refine va_get (D := gD G) (ci := 4) (v := .ref (h 10)) (C := RX4) (T := TX4) (N := 9) hx hb hts hiX4 hown hK hP 0 rfl rfl 0 (by decide) k10 (fun _ h9 => h9) rfl dX4_version_77 ?_
      refine va_getN (D := gD G) (ci := 3) (v := .ref (h 12)) (C := RX3) (T := TX3) (N := 9) hx hb hts hiX3 hown hK hP 3 rfl rfl 2 (by decide) k118 (fun _ h9 => h9) rfl dX4_version_80 ?_
      refine lv_iload_n hx hb dX4_version_83 rfl (lv_at hl 1 rfl) ?_
      refine ialdN (f := wn.2 2) (n := 24) (k := a1) hx hb hK hP 5 rfl rfl (by omega) dX4_version_84 ?_
      exact W.iret (v := (wn.2 2) a1) hx hb hr (fun t ht hW => ⟨(wn.2 2) a1, rfl, by first | rfl | trivial | omega | assumption, ht⟩) (fun _ h9 => by cases h9) dX4_version_85
    by_cases q15_3 : what = 3
    · skip
      subst q15_3
      refine lv_tableIn (tgt := 86) hx hb dX4_version_15 (by decide) (by decide) rfl (by decide) ?_
      refine lv_aload_n hx hb dX4_version_86 rfl (lv_at hl 0 rfl) ?_
      refine va_get (D := gD G) (ci := 4) (v := .ref (h 10)) (C := RX4) (T := TX4) (N := 9) hx hb hts hiX4 hown hK hP 0 rfl rfl 0 (by decide) k10 (fun _ h9 => h9) rfl dX4_version_87 ?_
      refine va_getN (D := gD G) (ci := 3) (v := .ref (h 13)) (C := RX3) (T := TX3) (N := 9) hx hb hts hiX3 hown hK hP 3 rfl rfl 3 (by decide) k121 (fun _ h9 => h9) rfl dX4_version_90 ?_
      refine lv_iload_n hx hb dX4_version_93 rfl (lv_at hl 1 rfl) ?_
      refine ialdN (f := wn.2 3) (n := 24) (k := a1) hx hb hK hP 6 rfl rfl (by omega) dX4_version_94 ?_
      exact W.iret (v := (wn.2 3) a1) hx hb hr (fun t ht hW => ⟨(wn.2 3) a1, rfl, by first | rfl | trivial | omega | assumption, ht⟩) (fun _ h9 => by cases h9) dX4_version_95
    by_cases q15_4 : what = 4
    · skip
      subst q15_4
      refine lv_tableIn (tgt := 96) hx hb dX4_version_15 (by decide) (by decide) rfl (by decide) ?_
      refine lv_aload_n hx hb dX4_version_96 rfl (lv_at hl 0 rfl) ?_
      refine va_get (D := gD G) (ci := 4) (v := .ref (h 10)) (C := RX4) (T := TX4) (N := 9) hx hb hts hiX4 hown hK hP 0 rfl rfl 0 (by decide) k10 (fun _ h9 => h9) rfl dX4_version_97 ?_
      refine lv_aload_n hx hb dX4_version_100 rfl (lv_at hl 0 rfl) ?_
      refine va_get (D := gD G) (ci := 4) (v := .ref (h 10)) (C := RX4) (T := TX4) (N := 9) hx hb hts hiX4 hown hK hP 0 rfl rfl 0 (by decide) k10 (fun _ h9 => h9) rfl dX4_version_101 ?_
      refine va_getN (D := gD G) (ci := 3) (v := .ref (h 14)) (C := RX3) (T := TX3) (N := 9) hx hb hts hiX3 hown hK hP 3 rfl rfl 4 (by decide) k115 (fun _ h9 => h9) rfl dX4_version_104 ?_
      refine lv_iload_n hx hb dX4_version_107 rfl (lv_at hl 1 rfl) ?_
      refine ialdN (f := wn.2 4) (n := 24) (k := a1) hx hb hK hP 7 rfl rfl (by omega) dX4_version_108 ?_
      refine cRi (w := wv G (fun k => h (10 + k)) wn) (As := [.int ((wn.2 4) a1)]) (rest := []) ⟨hx, hb, hml, hown, hts⟩ (mt_X3_countStanding l G (fun k => h (10 + k)) wn nl ((wn.2 4) a1) (hnl) (by first | assumption | omega)) (cwV 1 hts gX4_version_X3_countStanding rfl rfl rfl (by decide +kernel) ⟨Nat.le_of_ble_eq_true rfl, Nat.le_of_ble_eq_true rfl⟩) hK hN (hP.sub [3, 4, 5, 6, 7, 8, 9, 10] rfl) 0 3 rfl rfl rfl hl.1 rfl (Nat.le_of_ble_eq_true rfl) ⟨Nat.zero_le _, Nat.zero_le _⟩ dX4_version_109 (fun r109 hw109 => ?_)
      obtain rfl := hw109
      have hc109 := cnt_le (sdb (wn.2 7) (wn.2 8) ((wn.2 4) a1)) nl
      exact W.iret (v := nI (cnt (sdb (wn.2 7) (wn.2 8) ((wn.2 4) a1)) nl)) hx hb hr (fun t ht hW => ⟨nI (cnt (sdb (wn.2 7) (wn.2 8) ((wn.2 4) a1)) nl), rfl, by first | rfl | trivial | omega | assumption, ht⟩) (fun _ h9 => by cases h9) dX4_version_112
    by_cases q15_5 : what = 5
    · skip
      subst q15_5
      refine lv_tableIn (tgt := 113) hx hb dX4_version_15 (by decide) (by decide) rfl (by decide) ?_
      refine lv_aload_n hx hb dX4_version_113 rfl (lv_at hl 0 rfl) ?_
      refine va_get (D := gD G) (ci := 4) (v := .ref (h 10)) (C := RX4) (T := TX4) (N := 9) hx hb hts hiX4 hown hK hP 0 rfl rfl 0 (by decide) k10 (fun _ h9 => h9) rfl dX4_version_114 ?_
      refine lv_iload_n hx hb dX4_version_117 rfl (lv_at hl 1 rfl) ?_
      refine cRi (w := wv G (fun k => h (10 + k)) wn) (As := [.int (nI a1)]) (rest := []) ⟨hx, hb, hml, hown, hts⟩ (mt_X3_countBrought l G (fun k => h (10 + k)) wn nl (nI a1) (hnl) (by first | assumption | omega)) (cwV 1 hts gX4_version_X3_countBrought rfl rfl rfl (by decide +kernel) ⟨Nat.le_of_ble_eq_true rfl, Nat.le_of_ble_eq_true rfl⟩) hK hN (hP.sub [3, 4, 5, 6, 7, 8, 9, 10] rfl) 0 3 rfl rfl rfl hl.1 rfl (Nat.le_of_ble_eq_true rfl) ⟨Nat.zero_le _, Nat.zero_le _⟩ dX4_version_118 (fun r118 hw118 => ?_)
      exact W.iret (v := r118) hx hb hr (fun t ht hW => ⟨r118, rfl, by first | rfl | trivial | omega | assumption, ht⟩) (fun _ h9 => by cases h9) dX4_version_121
    by_cases q15_6 : what = 6
    · skip
      subst q15_6
      refine lv_tableIn (tgt := 122) hx hb dX4_version_15 (by decide) (by decide) rfl (by decide) ?_
      refine lv_aload_n hx hb dX4_version_122 rfl (lv_at hl 0 rfl) ?_
      refine va_get (D := gD G) (ci := 4) (v := .ref (h 10)) (C := RX4) (T := TX4) (N := 9) hx hb hts hiX4 hown hK hP 0 rfl rfl 0 (by decide) k10 (fun _ h9 => h9) rfl dX4_version_123 ?_
      refine lv_iload_n hx hb dX4_version_126 rfl (lv_at hl 1 rfl) ?_
      refine cRi (w := wv G (fun k => h (10 + k)) wn) (As := [.int (nI a1)]) (rest := []) ⟨hx, hb, hml, hown, hts⟩ (mt_X3_countTaken l G (fun k => h (10 + k)) wn nl (nI a1) (hnl) (by first | assumption | omega)) (cwV 1 hts gX4_version_X3_countTaken rfl rfl rfl (by decide +kernel) ⟨Nat.le_of_ble_eq_true rfl, Nat.le_of_ble_eq_true rfl⟩) hK hN (hP.sub [3, 4, 5, 6, 7, 8, 9, 10] rfl) 0 3 rfl rfl rfl hl.1 rfl (Nat.le_of_ble_eq_true rfl) ⟨Nat.zero_le _, Nat.zero_le _⟩ dX4_version_127 (fun r127 hw127 => ?_)
      exact W.iret (v := r127) hx hb hr (fun t ht hW => ⟨r127, rfl, by first | rfl | trivial | omega | assumption, ht⟩) (fun _ h9 => by cases h9) dX4_version_130
    have t15_0 : ¬ what.toInt = 0 := lv_neT q15_0 rfl
    have t15_1 : ¬ what.toInt = 1 := lv_neT q15_1 rfl
    have t15_2 : ¬ what.toInt = 2 := lv_neT q15_2 rfl
    have t15_3 : ¬ what.toInt = 3 := lv_neT q15_3 rfl
    have t15_4 : ¬ what.toInt = 4 := lv_neT q15_4 rfl
    have t15_5 : ¬ what.toInt = 5 := lv_neT q15_5 rfl
    have t15_6 : ¬ what.toInt = 6 := lv_neT q15_6 rfl
    refine lv_tableOut (tgt := 131) hx hb dX4_version_15 (by omega) (by decide) ?_
    refine lv_ldc (v := (-1000000002 : Int32)) hx hb hown (hts (.constant RX4 56 (-1000000002)) (List.mem_of_getElem? (i := 3) rfl)) dX4_version_131 ?_
    exact W.iret (v := (-1000000002 : Int32)) hx hb hr (fun t ht hW => ⟨(-1000000002 : Int32), rfl, by first | rfl | trivial | omega | assumption, ht⟩) (fun _ h9 => by cases h9) dX4_version_133
  · skip
    refine lv_if_ne (tgt := 14) hx hb dX4_version_8 (by decide) (fun c9 => absurd (by decide) c9) (fun _ => ?_)
    refine lv_ldc (v := (-1000000001 : Int32)) hx hb hown (hts (.constant RX4 110 (-1000000001)) (List.mem_of_getElem? (i := 2) rfl)) dX4_version_11 ?_
    exact W.iret (v := (-1000000001 : Int32)) hx hb hr (fun t ht hW => ⟨(-1000000001 : Int32), rfl, by first | rfl | trivial | omega | assumption, ht⟩) (fun _ h9 => by cases h9) dX4_version_13
set_option maxHeartbeats 1000000 in
set_option maxRecDepth 100000 in
theorem mt_X4_line (l : Launch) (G : gG) (h : Nat → Nat) (x : oS) (wn : oS) (wa : oS) (w0 : oS) (w1 : oS) (rd : oS) (wr : oS) (z : oS) (jj : Nat → Nat → Int64) (lt : Int64) (nv : Nat) (nl : Nat) (a : Int32) (what : Int32) (hnv : wn.1 0 = nI nv) (hnl : wn.1 5 = nI nl) (hnv24 : nv ≤ 24) (hnl120 : nl ≤ 120) : Met l yX4_line wsX4_line ({ frames := 2, cells := 0, slots := 0, locals := 45 }) (preR G (xw G h x wn wa w0 w1 rd wr z jj lt) [.ref (h 0), .int a, .int what]) (vp_Si (fun r : Int32 => True)) 0 0 (fun _ => False) := by
  refine Met.ofW (cc := cX4_line) (maxL := 3) (ret := (some .int)) (by decide) rfl ?_
  intro p e s m args below meth c s₁ B hml hv
  obtain ⟨ha, hP, hK, hN⟩ := hv
  subst ha
  have hx := B.exec
  have hb := B.bytes
  have hr := B.returns
  have hts := atoms_spec (ws := wsX4_line) B.pre
  have hown : s.vm.findClass RX4 = some m.cls := findClass_of_methodNamed B.named
  have hlocks := B.notSynchronized
  have hiX4 : ∀ w ∈ wsX40, w ∈ wsX4_line := by decide +kernel
  have k10 := hts (.fieldLink RX4 10 "WovenHistory" "now" "LWovenHistory$Weave;") (List.mem_of_getElem? (i := 1) rfl)
  have hiX3 : ∀ w ∈ wsX30, w ∈ wsX4_line := by decide +kernel
  have k136 : (Cond.fieldLinkNest "WovenHistory" 136 "WovenHistory$Weave" "sign" "[I" "WovenHistory").before _ s = true := va_Nw.use (A := ([.ref (h 0), .int a, .int what] : List Value).toArray) rfl (hN.1 ("WovenHistory", 136, "WovenHistory$Weave", "sign", "[I") (List.mem_of_getElem? (i := 4) rfl))
  have k139 : (Cond.fieldLinkNest "WovenHistory" 139 "WovenHistory$Weave" "brought" "[I" "WovenHistory").before _ s = true := va_Nw.use (A := ([.ref (h 0), .int a, .int what] : List Value).toArray) rfl (hN.1 ("WovenHistory", 139, "WovenHistory$Weave", "brought", "[I") (List.mem_of_getElem? (i := 5) rfl))
  have k142 : (Cond.fieldLinkNest "WovenHistory" 142 "WovenHistory$Weave" "took" "[I" "WovenHistory").before _ s = true := va_Nw.use (A := ([.ref (h 0), .int a, .int what] : List Value).toArray) rfl (hN.1 ("WovenHistory", 142, "WovenHistory$Weave", "took", "[I") (List.mem_of_getElem? (i := 6) rfl))
  have hl := lv_entry ([.ref (h 0), .int a, .int what]) (n := 3) (Nat.le_of_ble_eq_true rfl)
  rw [lg_entry_eq]
  generalize (lg_sl ([.ref (h 0), .int a, .int what]) ++ List.replicate (3 - (lg_sl ([.ref (h 0), .int a, .int what])).length) Slot.unset).toArray = ls at hl ⊢
  have hl : lv_has ls 3 [(0, .ref (h 0)), (1, .int a), (2, .int what)] := hl
  refine lv_aload_n hx hb dX4_line_0 rfl (lv_at hl 0 rfl) ?_
  refine va_get (D := gD G) (ci := 4) (v := .ref (h 10)) (C := RX4) (T := TX4) (N := 9) hx hb hts hiX4 hown hK hP 0 rfl rfl 0 (by decide) k10 (fun _ h9 => h9) rfl dX4_line_1 ?_
  refine lv_iload_n hx hb dX4_line_4 rfl (lv_at hl 1 rfl) ?_
  refine cRi (w := wv G (fun k => h (10 + k)) wn) (As := [.int a]) (rest := []) ⟨hx, hb, hml, hown, hts⟩ (mt_X3_hasLine l G (fun k => h (10 + k)) wn nl a (hnl) (by first | assumption | omega)) (cwV 1 hts gX4_line_X3_hasLine rfl rfl rfl (by decide +kernel) ⟨Nat.le_of_ble_eq_true rfl, Nat.le_of_ble_eq_true rfl⟩) hK hN (hP.sub [3, 4, 5, 6, 7, 8, 9, 10] rfl) 0 3 rfl rfl rfl hl.1 rfl (Nat.le_of_ble_eq_true rfl) ⟨Nat.zero_le _, Nat.zero_le _⟩ dX4_line_5 (fun r5 hw5 => ?_)
  rcases hw5 with ⟨rfl, a1, ha1, rfl⟩ | ⟨rfl, hna1⟩
  · skip
    refine lv_if_ne (tgt := 14) hx hb dX4_line_8 (by decide) (fun _ => ?_) (fun c9 => absurd c9 (by decide))
    refine lv_iload_n hx hb dX4_line_14 rfl (lv_at hl 2 rfl) ?_
    by_cases q15_0 : what = 0
    · skip
      subst q15_0
      refine lv_tableIn (tgt := 44) hx hb dX4_line_15 (by decide) (by decide) rfl (by decide) ?_
      refine lv_aload_n hx hb dX4_line_44 rfl (lv_at hl 0 rfl) ?_
      refine va_get (D := gD G) (ci := 4) (v := .ref (h 10)) (C := RX4) (T := TX4) (N := 9) hx hb hts hiX4 hown hK hP 0 rfl rfl 0 (by decide) k10 (fun _ h9 => h9) rfl dX4_line_45 ?_
      refine va_getN (D := gD G) (ci := 3) (v := .ref (h 16)) (C := RX3) (T := TX3) (N := 9) hx hb hts hiX3 hown hK hP 3 rfl rfl 6 (by decide) k136 (fun _ h9 => h9) rfl dX4_line_48 ?_
      refine lv_iload_n hx hb dX4_line_51 rfl (lv_at hl 1 rfl) ?_
      refine ialdN (f := wn.2 6) (n := 120) (k := a1) hx hb hK hP 8 rfl rfl (by omega) dX4_line_52 ?_
      exact W.iret (v := (wn.2 6) a1) hx hb hr (fun t ht hW => ⟨(wn.2 6) a1, rfl, by first | rfl | trivial | omega | assumption, ht⟩) (fun _ h9 => by cases h9) dX4_line_53
    by_cases q15_1 : what = 1
    · skip
      subst q15_1
      refine lv_tableIn (tgt := 54) hx hb dX4_line_15 (by decide) (by decide) rfl (by decide) ?_
      refine lv_aload_n hx hb dX4_line_54 rfl (lv_at hl 0 rfl) ?_
      refine va_get (D := gD G) (ci := 4) (v := .ref (h 10)) (C := RX4) (T := TX4) (N := 9) hx hb hts hiX4 hown hK hP 0 rfl rfl 0 (by decide) k10 (fun _ h9 => h9) rfl dX4_line_55 ?_
      refine va_getN (D := gD G) (ci := 3) (v := .ref (h 17)) (C := RX3) (T := TX3) (N := 9) hx hb hts hiX3 hown hK hP 3 rfl rfl 7 (by decide) k139 (fun _ h9 => h9) rfl dX4_line_58 ?_
      refine lv_iload_n hx hb dX4_line_61 rfl (lv_at hl 1 rfl) ?_
      refine ialdN (f := wn.2 7) (n := 120) (k := a1) hx hb hK hP 9 rfl rfl (by omega) dX4_line_62 ?_
      exact W.iret (v := (wn.2 7) a1) hx hb hr (fun t ht hW => ⟨(wn.2 7) a1, rfl, by first | rfl | trivial | omega | assumption, ht⟩) (fun _ h9 => by cases h9) dX4_line_63
    by_cases q15_2 : what = 2
    · skip
      subst q15_2
      refine lv_tableIn (tgt := 64) hx hb dX4_line_15 (by decide) (by decide) rfl (by decide) ?_
      refine lv_aload_n hx hb dX4_line_64 rfl (lv_at hl 0 rfl) ?_
      refine va_get (D := gD G) (ci := 4) (v := .ref (h 10)) (C := RX4) (T := TX4) (N := 9) hx hb hts hiX4 hown hK hP 0 rfl rfl 0 (by decide) k10 (fun _ h9 => h9) rfl dX4_line_65 ?_
      refine va_getN (D := gD G) (ci := 3) (v := .ref (h 18)) (C := RX3) (T := TX3) (N := 9) hx hb hts hiX3 hown hK hP 3 rfl rfl 8 (by decide) k142 (fun _ h9 => h9) rfl dX4_line_68 ?_
      refine lv_iload_n hx hb dX4_line_71 rfl (lv_at hl 1 rfl) ?_
      refine ialdN (f := wn.2 8) (n := 120) (k := a1) hx hb hK hP 10 rfl rfl (by omega) dX4_line_72 ?_
      exact W.iret (v := (wn.2 8) a1) hx hb hr (fun t ht hW => ⟨(wn.2 8) a1, rfl, by first | rfl | trivial | omega | assumption, ht⟩) (fun _ h9 => by cases h9) dX4_line_73
    by_cases q15_3 : what = 3
    · skip
      subst q15_3
      refine lv_tableIn (tgt := 74) hx hb dX4_line_15 (by decide) (by decide) rfl (by decide) ?_
      refine lv_aload_n hx hb dX4_line_74 rfl (lv_at hl 0 rfl) ?_
      refine va_get (D := gD G) (ci := 4) (v := .ref (h 10)) (C := RX4) (T := TX4) (N := 9) hx hb hts hiX4 hown hK hP 0 rfl rfl 0 (by decide) k10 (fun _ h9 => h9) rfl dX4_line_75 ?_
      refine lv_iload_n hx hb dX4_line_78 rfl (lv_at hl 1 rfl) ?_
      refine cRi (w := wv G (fun k => h (10 + k)) wn) (As := [.int (nI a1)]) (rest := []) ⟨hx, hb, hml, hown, hts⟩ (mt_X3_lifeOf l G (fun k => h (10 + k)) wn nv a1 (hnv) (by first | assumption | omega) (by first | assumption | omega)) (cwV 1 hts gX4_line_X3_lifeOf rfl rfl rfl (by decide +kernel) ⟨Nat.le_of_ble_eq_true rfl, Nat.le_of_ble_eq_true rfl⟩) hK hN (hP.sub [3, 4, 5, 6, 7, 8, 9, 10] rfl) 0 3 rfl rfl rfl hl.1 rfl (Nat.le_of_ble_eq_true rfl) ⟨Nat.zero_le _, Nat.zero_le _⟩ dX4_line_79 (fun r79 hw79 => ?_)
      exact W.iret (v := r79) hx hb hr (fun t ht hW => ⟨r79, rfl, by first | rfl | trivial | omega | assumption, ht⟩) (fun _ h9 => by cases h9) dX4_line_82
    have t15_0 : ¬ what.toInt = 0 := lv_neT q15_0 rfl
    have t15_1 : ¬ what.toInt = 1 := lv_neT q15_1 rfl
    have t15_2 : ¬ what.toInt = 2 := lv_neT q15_2 rfl
    have t15_3 : ¬ what.toInt = 3 := lv_neT q15_3 rfl
    refine lv_tableOut (tgt := 83) hx hb dX4_line_15 (by omega) (by decide) ?_
    refine lv_ldc (v := (-1000000002 : Int32)) hx hb hown (hts (.constant RX4 56 (-1000000002)) (List.mem_of_getElem? (i := 3) rfl)) dX4_line_83 ?_
    exact W.iret (v := (-1000000002 : Int32)) hx hb hr (fun t ht hW => ⟨(-1000000002 : Int32), rfl, by first | rfl | trivial | omega | assumption, ht⟩) (fun _ h9 => by cases h9) dX4_line_85
  · skip
    refine lv_if_ne (tgt := 14) hx hb dX4_line_8 (by decide) (fun c9 => absurd (by decide) c9) (fun _ => ?_)
    refine lv_ldc (v := (-1000000001 : Int32)) hx hb hown (hts (.constant RX4 110 (-1000000001)) (List.mem_of_getElem? (i := 2) rfl)) dX4_line_11 ?_
    exact W.iret (v := (-1000000001 : Int32)) hx hb hr (fun t ht hW => ⟨(-1000000001 : Int32), rfl, by first | rfl | trivial | omega | assumption, ht⟩) (fun _ h9 => by cases h9) dX4_line_13
set_option maxHeartbeats 1000000 in
set_option maxRecDepth 100000 in
theorem mt_X4_text (l : Launch) (G : gG) (h : Nat → Nat) (x : oS) (wn : oS) (wa : oS) (w0 : oS) (w1 : oS) (rd : oS) (wr : oS) (z : oS) (jj : Nat → Nat → Int64) (lt : Int64) (nv : Nat) (nl : Nat) (a : Int32) (i : Int32) (what : Int32) (hnv : wn.1 0 = nI nv) (hnl : wn.1 5 = nI nl) (hnv24 : nv ≤ 24) (hnl120 : nl ≤ 120) : Met l yX4_text wsX4_text ({ frames := 2, cells := 0, slots := 0, locals := 46 }) (preR G (xw G h x wn wa w0 w1 rd wr z jj lt) [.ref (h 0), .int a, .int i, .int what]) (vp_Si (fun r : Int32 => True)) 0 0 (fun _ => False) := by
  refine Met.ofW (cc := cX4_text) (maxL := 5) (ret := (some .int)) (by decide) rfl ?_
  intro p e s m args below meth c s₁ B hml hv
  obtain ⟨ha, hP, hK, hN⟩ := hv
  subst ha
  have hx := B.exec
  have hb := B.bytes
  have hr := B.returns
  have hts := atoms_spec (ws := wsX4_text) B.pre
  have hown : s.vm.findClass RX4 = some m.cls := findClass_of_methodNamed B.named
  have hlocks := B.notSynchronized
  have hiX4 : ∀ w ∈ wsX40, w ∈ wsX4_text := by decide +kernel
  have k10 := hts (.fieldLink RX4 10 "WovenHistory" "now" "LWovenHistory$Weave;") (List.mem_of_getElem? (i := 1) rfl)
  have k48 := hts (.fieldLink RX4 48 "WovenHistory" "opened" "Z") (List.mem_of_getElem? (i := 4) rfl)
  have hiX3 : ∀ w ∈ wsX30, w ∈ wsX4_text := by decide +kernel
  have k82 : (Cond.fieldLinkNest "WovenHistory" 82 "WovenHistory$Weave" "versions" "I" "WovenHistory").before _ s = true := va_Nw.use (A := ([.ref (h 0), .int a, .int i, .int what] : List Value).toArray) rfl (hN.1 ("WovenHistory", 82, "WovenHistory$Weave", "versions", "I") (List.mem_of_getElem? (i := 12) rfl))
  have k136 : (Cond.fieldLinkNest "WovenHistory" 136 "WovenHistory$Weave" "sign" "[I" "WovenHistory").before _ s = true := va_Nw.use (A := ([.ref (h 0), .int a, .int i, .int what] : List Value).toArray) rfl (hN.1 ("WovenHistory", 136, "WovenHistory$Weave", "sign", "[I") (List.mem_of_getElem? (i := 4) rfl))
  have k139 : (Cond.fieldLinkNest "WovenHistory" 139 "WovenHistory$Weave" "brought" "[I" "WovenHistory").before _ s = true := va_Nw.use (A := ([.ref (h 0), .int a, .int i, .int what] : List Value).toArray) rfl (hN.1 ("WovenHistory", 139, "WovenHistory$Weave", "brought", "[I") (List.mem_of_getElem? (i := 5) rfl))
  have hl := lv_entry ([.ref (h 0), .int a, .int i, .int what]) (n := 5) (Nat.le_of_ble_eq_true rfl)
  rw [lg_entry_eq]
  generalize (lg_sl ([.ref (h 0), .int a, .int i, .int what]) ++ List.replicate (5 - (lg_sl ([.ref (h 0), .int a, .int i, .int what])).length) Slot.unset).toArray = ls at hl ⊢
  have hl : lv_has ls 5 [(0, .ref (h 0)), (1, .int a), (2, .int i), (3, .int what)] := hl
  refine lv_iload_n hx hb dX4_text_0 rfl (lv_at hl 1 rfl) ?_
  refine lv_iconst (v := (-1 : Int32)) hx hb dX4_text_1 (by decide) ?_
  refine lv_icmp_eq (tgt := 19) hx hb dX4_text_2 (by decide) (fun c2 => ?_) (fun c2 => ?_)
  · skip
    subst c2
    refine lv_iload_n hx hb dX4_text_19 rfl (lv_at hl 2 rfl) ?_
    refine lv_if_lt (tgt := 32) hx hb dX4_text_20 (by decide) (fun c20 => ?_) (fun c20 => ?_)
    · skip
      refine lv_ldc (v := (-1000000002 : Int32)) hx hb hown (hts (.constant RX4 56 (-1000000002)) (List.mem_of_getElem? (i := 3) rfl)) dX4_text_32 ?_
      exact W.iret (v := (-1000000002 : Int32)) hx hb hr (fun t ht hW => ⟨(-1000000002 : Int32), rfl, by first | rfl | trivial | omega | assumption, ht⟩) (fun _ h9 => by cases h9) dX4_text_34
    · skip
      refine lv_iload_n hx hb dX4_text_23 rfl (lv_at hl 3 rfl) ?_
      refine lv_if_lt (tgt := 32) hx hb dX4_text_24 (by decide) (fun c24 => ?_) (fun c24 => ?_)
      · skip
        refine lv_ldc (v := (-1000000002 : Int32)) hx hb hown (hts (.constant RX4 56 (-1000000002)) (List.mem_of_getElem? (i := 3) rfl)) dX4_text_32 ?_
        exact W.iret (v := (-1000000002 : Int32)) hx hb hr (fun t ht hW => ⟨(-1000000002 : Int32), rfl, by first | rfl | trivial | omega | assumption, ht⟩) (fun _ h9 => by cases h9) dX4_text_34
      · skip
        refine lv_iload_n hx hb dX4_text_27 rfl (lv_at hl 3 rfl) ?_
        refine lv_iconst (v := nI 2) hx hb dX4_text_28 (by decide) ?_
        refine lv_icmp_le (tgt := 35) hx hb dX4_text_29 (by decide) (fun c29 => ?_) (fun c29 => ?_)
        · skip
          refine lv_iload_n hx hb dX4_text_35 rfl (lv_at hl 1 rfl) ?_
          refine lv_iconst (v := (-1 : Int32)) hx hb dX4_text_36 (by decide) ?_
          refine lv_icmp_ne (tgt := 50) hx hb dX4_text_37 (by decide) (fun c9 => absurd (by decide) c9) (fun _ => ?_)
          refine lv_aload_n hx hb dX4_text_40 rfl (lv_at hl 0 rfl) ?_
          refine va_get (D := gD G) (ci := 4) (v := .int (x.1 7)) (C := RX4) (T := TX4) (N := 9) hx hb hts hiX4 hown hK hP 0 rfl rfl 7 (by decide) k48 (fun _ h9 => h9) rfl dX4_text_41 ?_
          refine lv_if_ne (tgt := 50) hx hb dX4_text_44 (by decide) (fun c44 => ?_) (fun c44 => ?_)
          · skip
            refine lv_aload_n hx hb dX4_text_50 rfl (lv_at hl 0 rfl) ?_
            refine va_get (D := gD G) (ci := 4) (v := .ref (h 10)) (C := RX4) (T := TX4) (N := 9) hx hb hts hiX4 hown hK hP 0 rfl rfl 0 (by decide) k10 (fun _ h9 => h9) rfl dX4_text_51 ?_
            refine lv_aload_n hx hb dX4_text_54 rfl (lv_at hl 0 rfl) ?_
            refine va_get (D := gD G) (ci := 4) (v := .ref (h 10)) (C := RX4) (T := TX4) (N := 9) hx hb hts hiX4 hown hK hP 0 rfl rfl 0 (by decide) k10 (fun _ h9 => h9) rfl dX4_text_55 ?_
            refine lv_iload_n hx hb dX4_text_58 rfl (lv_at hl 1 rfl) ?_
            refine lv_iconst (v := (-1 : Int32)) hx hb dX4_text_59 (by decide) ?_
            refine lv_icmp_ne (tgt := 73) hx hb dX4_text_60 (by decide) (fun c9 => absurd (by decide) c9) (fun _ => ?_)
            refine lv_aload_n hx hb dX4_text_63 rfl (lv_at hl 0 rfl) ?_
            refine va_get (D := gD G) (ci := 4) (v := .ref (h 10)) (C := RX4) (T := TX4) (N := 9) hx hb hts hiX4 hown hK hP 0 rfl rfl 0 (by decide) k10 (fun _ h9 => h9) rfl dX4_text_64 ?_
            refine va_getN (D := gD G) (ci := 3) (v := .int (wn.1 0)) (C := RX3) (T := TX3) (N := 9) hx hb hts hiX3 hown hK hP 3 rfl rfl 0 (by decide) k82 (fun _ h9 => h9) rfl dX4_text_67 ?_
            refine topE hnv ?_
            refine lv_goto (tgt := 74) hx hb dX4_text_70 (by decide) ?_
            refine cRi (w := wv G (fun k => h (10 + k)) wn) (As := [.int (nI nv)]) (rest := [.ref (h 10)]) ⟨hx, hb, hml, hown, hts⟩ (mt_X3_changesOf l G (fun k => h (10 + k)) wn (nI nv)) (cwV 1 hts gX4_text_X3_changesOf rfl rfl rfl (by decide +kernel) ⟨Nat.le_of_ble_eq_true rfl, Nat.le_of_ble_eq_true rfl⟩) hK hN (hP.sub [3, 4, 5, 6, 7, 8, 9, 10] rfl) 0 3 rfl rfl rfl hl.1 rfl (Nat.le_of_ble_eq_true rfl) ⟨Nat.zero_le _, Nat.zero_le _⟩ dX4_text_74 (fun r74 hw74 => ?_)
            refine lv_iload_n hx hb dX4_text_77 rfl (lv_at hl 2 rfl) ?_
            refine cRi (w := wv G (fun k => h (10 + k)) wn) (As := [.int r74, .int i]) (rest := []) ⟨hx, hb, hml, hown, hts⟩ (mt_X3_findStanding l G (fun k => h (10 + k)) wn nl r74 i (hnl) (by first | assumption | omega)) (cwV 2 hts gX4_text_X3_findStanding rfl rfl rfl (by decide +kernel) ⟨Nat.le_of_ble_eq_true rfl, Nat.le_of_ble_eq_true rfl⟩) hK hN (hP.sub [3, 4, 5, 6, 7, 8, 9, 10] rfl) 0 3 rfl rfl rfl hl.1 rfl (Nat.le_of_ble_eq_true rfl) ⟨Nat.zero_le _, Nat.zero_le _⟩ dX4_text_78 (fun r78 hw78 => ?_)
            rcases hw78 with ⟨i78, hi78, rfl⟩ | rfl
            · skip
              refine lv_istore (lv' := [(4, .int (nI (i78))), (0, .ref (h 0)), (1, .int (-1 : Int32)), (2, .int i), (3, .int what)]) hx hb dX4_text_81 hl (by decide) rfl (fun ls hl => ?_)
              refine lv_aload_n hx hb dX4_text_83 rfl (lv_at hl 1 rfl) ?_
              refine va_get (D := gD G) (ci := 4) (v := .ref (h 10)) (C := RX4) (T := TX4) (N := 9) hx hb hts hiX4 hown hK hP 0 rfl rfl 0 (by decide) k10 (fun _ h9 => h9) rfl dX4_text_84 ?_
              refine lv_iload hx hb dX4_text_87 (lv_at hl 0 rfl) ?_
              refine cRi (w := wv G (fun k => h (10 + k)) wn) (As := [.int (nI (i78))]) (rest := []) ⟨hx, hb, hml, hown, hts⟩ (mt_X3_hasLine l G (fun k => h (10 + k)) wn nl (nI (i78)) (hnl) (by first | assumption | omega)) (cwV 1 hts gX4_text_X3_hasLine rfl rfl rfl (by decide +kernel) ⟨Nat.le_of_ble_eq_true rfl, Nat.le_of_ble_eq_true rfl⟩) hK hN (hP.sub [3, 4, 5, 6, 7, 8, 9, 10] rfl) 0 3 rfl rfl rfl hl.1 rfl (Nat.le_of_ble_eq_true rfl) ⟨Nat.zero_le _, Nat.zero_le _⟩ dX4_text_89 (fun r89 hw89 => ?_)
              rcases hw89 with ⟨rfl, j89, hj89, ej89⟩ | ⟨rfl, hn89⟩
              · skip
                refine lv_if_ne (tgt := 97) hx hb dX4_text_92 (by decide) (fun _ => ?_) (fun c9 => absurd c9 (by decide))
                refine lv_iload_n hx hb dX4_text_97 rfl (lv_at hl 4 rfl) ?_
                by_cases q98_0 : what = 0
                · skip
                  subst q98_0
                  refine lv_lookup (tgt := 124) hx hb dX4_text_98 (by decide) rfl (by decide) ?_
                  refine lv_aload_n hx hb dX4_text_124 rfl (lv_at hl 1 rfl) ?_
                  refine va_get (D := gD G) (ci := 4) (v := .ref (h 10)) (C := RX4) (T := TX4) (N := 9) hx hb hts hiX4 hown hK hP 0 rfl rfl 0 (by decide) k10 (fun _ h9 => h9) rfl dX4_text_125 ?_
                  refine va_getN (D := gD G) (ci := 3) (v := .ref (h 16)) (C := RX3) (T := TX3) (N := 9) hx hb hts hiX3 hown hK hP 3 rfl rfl 6 (by decide) k136 (fun _ h9 => h9) rfl dX4_text_128 ?_
                  refine lv_iload hx hb dX4_text_131 (lv_at hl 0 rfl) ?_
                  refine ialdN (f := wn.2 6) (n := 120) (k := i78) hx hb hK hP 8 rfl rfl (by omega) dX4_text_133 ?_
                  exact W.iret (v := (wn.2 6) i78) hx hb hr (fun t ht hW => ⟨(wn.2 6) i78, rfl, by first | rfl | trivial | omega | assumption, ht⟩) (fun _ h9 => by cases h9) dX4_text_134
                by_cases q98_1 : what = 1
                · skip
                  subst q98_1
                  refine lv_lookup (tgt := 135) hx hb dX4_text_98 (by decide) rfl (by decide) ?_
                  refine lv_aload_n hx hb dX4_text_135 rfl (lv_at hl 1 rfl) ?_
                  refine va_get (D := gD G) (ci := 4) (v := .ref (h 10)) (C := RX4) (T := TX4) (N := 9) hx hb hts hiX4 hown hK hP 0 rfl rfl 0 (by decide) k10 (fun _ h9 => h9) rfl dX4_text_136 ?_
                  refine va_getN (D := gD G) (ci := 3) (v := .ref (h 17)) (C := RX3) (T := TX3) (N := 9) hx hb hts hiX3 hown hK hP 3 rfl rfl 7 (by decide) k139 (fun _ h9 => h9) rfl dX4_text_139 ?_
                  refine lv_iload hx hb dX4_text_142 (lv_at hl 0 rfl) ?_
                  refine ialdN (f := wn.2 7) (n := 120) (k := i78) hx hb hK hP 9 rfl rfl (by omega) dX4_text_144 ?_
                  exact W.iret (v := (wn.2 7) i78) hx hb hr (fun t ht hW => ⟨(wn.2 7) i78, rfl, by first | rfl | trivial | omega | assumption, ht⟩) (fun _ h9 => by cases h9) dX4_text_145
                refine lv_lookup (tgt := 146) hx hb dX4_text_98 (by decide) ((lv_osw q98_0 rfl).trans ((lv_osw q98_1 rfl).trans (rfl))) (by decide) ?_
                refine lv_iload hx hb dX4_text_146 (lv_at hl 0 rfl) ?_
                exact W.iret (v := nI (i78)) hx hb hr (fun t ht hW => ⟨nI (i78), rfl, by first | rfl | trivial | omega | assumption, ht⟩) (fun _ h9 => by cases h9) dX4_text_148
              · skip
                refine lv_if_ne (tgt := 97) hx hb dX4_text_92 (by decide) (fun c9 => absurd (by decide) c9) (fun _ => ?_)
                refine lv_iconst (v := (-1 : Int32)) hx hb dX4_text_95 (by decide) ?_
                exact W.iret (v := (-1 : Int32)) hx hb hr (fun t ht hW => ⟨(-1 : Int32), rfl, by first | rfl | trivial | omega | assumption, ht⟩) (fun _ h9 => by cases h9) dX4_text_96
            · skip
              refine lv_istore (lv' := [(4, .int (-1 : Int32)), (0, .ref (h 0)), (1, .int (-1 : Int32)), (2, .int i), (3, .int what)]) hx hb dX4_text_81 hl (by decide) rfl (fun ls hl => ?_)
              refine lv_aload_n hx hb dX4_text_83 rfl (lv_at hl 1 rfl) ?_
              refine va_get (D := gD G) (ci := 4) (v := .ref (h 10)) (C := RX4) (T := TX4) (N := 9) hx hb hts hiX4 hown hK hP 0 rfl rfl 0 (by decide) k10 (fun _ h9 => h9) rfl dX4_text_84 ?_
              refine lv_iload hx hb dX4_text_87 (lv_at hl 0 rfl) ?_
              refine cRi (w := wv G (fun k => h (10 + k)) wn) (As := [.int (-1 : Int32)]) (rest := []) ⟨hx, hb, hml, hown, hts⟩ (mt_X3_hasLine l G (fun k => h (10 + k)) wn nl (-1 : Int32) (hnl) (by first | assumption | omega)) (cwV 1 hts gX4_text_X3_hasLine rfl rfl rfl (by decide +kernel) ⟨Nat.le_of_ble_eq_true rfl, Nat.le_of_ble_eq_true rfl⟩) hK hN (hP.sub [3, 4, 5, 6, 7, 8, 9, 10] rfl) 0 3 rfl rfl rfl hl.1 rfl (Nat.le_of_ble_eq_true rfl) ⟨Nat.zero_le _, Nat.zero_le _⟩ dX4_text_89 (fun r89 hw89 => ?_)
              rcases hw89 with ⟨rfl, j89, hj89, ej89⟩ | ⟨rfl, hn89⟩
              · skip
                exact absurd ej89.symm (nI_nm1 (by omega))
              · skip
                refine lv_if_ne (tgt := 97) hx hb dX4_text_92 (by decide) (fun c9 => absurd (by decide) c9) (fun _ => ?_)
                refine lv_iconst (v := (-1 : Int32)) hx hb dX4_text_95 (by decide) ?_
                exact W.iret (v := (-1 : Int32)) hx hb hr (fun t ht hW => ⟨(-1 : Int32), rfl, by first | rfl | trivial | omega | assumption, ht⟩) (fun _ h9 => by cases h9) dX4_text_96
          · skip
            refine lv_ldc (v := (-1000000003 : Int32)) hx hb hown (hts (.constant RX4 148 (-1000000003)) (List.mem_of_getElem? (i := 5) rfl)) dX4_text_47 ?_
            exact W.iret (v := (-1000000003 : Int32)) hx hb hr (fun t ht hW => ⟨(-1000000003 : Int32), rfl, by first | rfl | trivial | omega | assumption, ht⟩) (fun _ h9 => by cases h9) dX4_text_49
        · skip
          refine lv_ldc (v := (-1000000002 : Int32)) hx hb hown (hts (.constant RX4 56 (-1000000002)) (List.mem_of_getElem? (i := 3) rfl)) dX4_text_32 ?_
          exact W.iret (v := (-1000000002 : Int32)) hx hb hr (fun t ht hW => ⟨(-1000000002 : Int32), rfl, by first | rfl | trivial | omega | assumption, ht⟩) (fun _ h9 => by cases h9) dX4_text_34
  · skip
    refine lv_aload_n hx hb dX4_text_5 rfl (lv_at hl 0 rfl) ?_
    refine va_get (D := gD G) (ci := 4) (v := .ref (h 10)) (C := RX4) (T := TX4) (N := 9) hx hb hts hiX4 hown hK hP 0 rfl rfl 0 (by decide) k10 (fun _ h9 => h9) rfl dX4_text_6 ?_
    refine lv_iload_n hx hb dX4_text_9 rfl (lv_at hl 1 rfl) ?_
    refine cRi (w := wv G (fun k => h (10 + k)) wn) (As := [.int a]) (rest := []) ⟨hx, hb, hml, hown, hts⟩ (mt_X3_hasVersion l G (fun k => h (10 + k)) wn nv a (hnv) (by first | assumption | omega)) (cwV 1 hts gX4_text_X3_hasVersion rfl rfl rfl (by decide +kernel) ⟨Nat.le_of_ble_eq_true rfl, Nat.le_of_ble_eq_true rfl⟩) hK hN (hP.sub [3, 4, 5, 6, 7, 8, 9, 10] rfl) 0 3 rfl rfl rfl hl.1 rfl (Nat.le_of_ble_eq_true rfl) ⟨Nat.zero_le _, Nat.zero_le _⟩ dX4_text_10 (fun r10 hw10 => ?_)
    rcases hw10 with ⟨rfl, a1, ha1, rfl⟩ | ⟨rfl, hna1⟩
    · skip
      refine lv_if_ne (tgt := 19) hx hb dX4_text_13 (by decide) (fun _ => ?_) (fun c9 => absurd c9 (by decide))
      refine lv_iload_n hx hb dX4_text_19 rfl (lv_at hl 2 rfl) ?_
      refine lv_if_lt (tgt := 32) hx hb dX4_text_20 (by decide) (fun c20 => ?_) (fun c20 => ?_)
      · skip
        refine lv_ldc (v := (-1000000002 : Int32)) hx hb hown (hts (.constant RX4 56 (-1000000002)) (List.mem_of_getElem? (i := 3) rfl)) dX4_text_32 ?_
        exact W.iret (v := (-1000000002 : Int32)) hx hb hr (fun t ht hW => ⟨(-1000000002 : Int32), rfl, by first | rfl | trivial | omega | assumption, ht⟩) (fun _ h9 => by cases h9) dX4_text_34
      · skip
        refine lv_iload_n hx hb dX4_text_23 rfl (lv_at hl 3 rfl) ?_
        refine lv_if_lt (tgt := 32) hx hb dX4_text_24 (by decide) (fun c24 => ?_) (fun c24 => ?_)
        · skip
          refine lv_ldc (v := (-1000000002 : Int32)) hx hb hown (hts (.constant RX4 56 (-1000000002)) (List.mem_of_getElem? (i := 3) rfl)) dX4_text_32 ?_
          exact W.iret (v := (-1000000002 : Int32)) hx hb hr (fun t ht hW => ⟨(-1000000002 : Int32), rfl, by first | rfl | trivial | omega | assumption, ht⟩) (fun _ h9 => by cases h9) dX4_text_34
        · skip
          refine lv_iload_n hx hb dX4_text_27 rfl (lv_at hl 3 rfl) ?_
          refine lv_iconst (v := nI 2) hx hb dX4_text_28 (by decide) ?_
          refine lv_icmp_le (tgt := 35) hx hb dX4_text_29 (by decide) (fun c29 => ?_) (fun c29 => ?_)
          · skip
            refine lv_iload_n hx hb dX4_text_35 rfl (lv_at hl 1 rfl) ?_
            refine lv_iconst (v := (-1 : Int32)) hx hb dX4_text_36 (by decide) ?_
            refine lv_icmp_ne (tgt := 50) hx hb dX4_text_37 (by decide) (fun _ => ?_) (fun c9 => absurd c9 (nI_nm1 (by omega)))
            refine lv_aload_n hx hb dX4_text_50 rfl (lv_at hl 0 rfl) ?_
            refine va_get (D := gD G) (ci := 4) (v := .ref (h 10)) (C := RX4) (T := TX4) (N := 9) hx hb hts hiX4 hown hK hP 0 rfl rfl 0 (by decide) k10 (fun _ h9 => h9) rfl dX4_text_51 ?_
            refine lv_aload_n hx hb dX4_text_54 rfl (lv_at hl 0 rfl) ?_
            refine va_get (D := gD G) (ci := 4) (v := .ref (h 10)) (C := RX4) (T := TX4) (N := 9) hx hb hts hiX4 hown hK hP 0 rfl rfl 0 (by decide) k10 (fun _ h9 => h9) rfl dX4_text_55 ?_
            refine lv_iload_n hx hb dX4_text_58 rfl (lv_at hl 1 rfl) ?_
            refine lv_iconst (v := (-1 : Int32)) hx hb dX4_text_59 (by decide) ?_
            refine lv_icmp_ne (tgt := 73) hx hb dX4_text_60 (by decide) (fun _ => ?_) (fun c9 => absurd c9 (nI_nm1 (by omega)))
            refine lv_iload_n hx hb dX4_text_73 rfl (lv_at hl 1 rfl) ?_
            refine cRi (w := wv G (fun k => h (10 + k)) wn) (As := [.int (nI a1)]) (rest := [.ref (h 10)]) ⟨hx, hb, hml, hown, hts⟩ (mt_X3_changesOf l G (fun k => h (10 + k)) wn (nI a1)) (cwV 1 hts gX4_text_X3_changesOf rfl rfl rfl (by decide +kernel) ⟨Nat.le_of_ble_eq_true rfl, Nat.le_of_ble_eq_true rfl⟩) hK hN (hP.sub [3, 4, 5, 6, 7, 8, 9, 10] rfl) 0 3 rfl rfl rfl hl.1 rfl (Nat.le_of_ble_eq_true rfl) ⟨Nat.zero_le _, Nat.zero_le _⟩ dX4_text_74 (fun r74 hw74 => ?_)
            refine lv_iload_n hx hb dX4_text_77 rfl (lv_at hl 2 rfl) ?_
            refine cRi (w := wv G (fun k => h (10 + k)) wn) (As := [.int r74, .int i]) (rest := []) ⟨hx, hb, hml, hown, hts⟩ (mt_X3_findStanding l G (fun k => h (10 + k)) wn nl r74 i (hnl) (by first | assumption | omega)) (cwV 2 hts gX4_text_X3_findStanding rfl rfl rfl (by decide +kernel) ⟨Nat.le_of_ble_eq_true rfl, Nat.le_of_ble_eq_true rfl⟩) hK hN (hP.sub [3, 4, 5, 6, 7, 8, 9, 10] rfl) 0 3 rfl rfl rfl hl.1 rfl (Nat.le_of_ble_eq_true rfl) ⟨Nat.zero_le _, Nat.zero_le _⟩ dX4_text_78 (fun r78 hw78 => ?_)
            rcases hw78 with ⟨i78, hi78, rfl⟩ | rfl
            · skip
              refine lv_istore (lv' := [(4, .int (nI (i78))), (0, .ref (h 0)), (1, .int (nI a1)), (2, .int i), (3, .int what)]) hx hb dX4_text_81 hl (by decide) rfl (fun ls hl => ?_)
              refine lv_aload_n hx hb dX4_text_83 rfl (lv_at hl 1 rfl) ?_
              refine va_get (D := gD G) (ci := 4) (v := .ref (h 10)) (C := RX4) (T := TX4) (N := 9) hx hb hts hiX4 hown hK hP 0 rfl rfl 0 (by decide) k10 (fun _ h9 => h9) rfl dX4_text_84 ?_
              refine lv_iload hx hb dX4_text_87 (lv_at hl 0 rfl) ?_
              refine cRi (w := wv G (fun k => h (10 + k)) wn) (As := [.int (nI (i78))]) (rest := []) ⟨hx, hb, hml, hown, hts⟩ (mt_X3_hasLine l G (fun k => h (10 + k)) wn nl (nI (i78)) (hnl) (by first | assumption | omega)) (cwV 1 hts gX4_text_X3_hasLine rfl rfl rfl (by decide +kernel) ⟨Nat.le_of_ble_eq_true rfl, Nat.le_of_ble_eq_true rfl⟩) hK hN (hP.sub [3, 4, 5, 6, 7, 8, 9, 10] rfl) 0 3 rfl rfl rfl hl.1 rfl (Nat.le_of_ble_eq_true rfl) ⟨Nat.zero_le _, Nat.zero_le _⟩ dX4_text_89 (fun r89 hw89 => ?_)
              rcases hw89 with ⟨rfl, j89, hj89, ej89⟩ | ⟨rfl, hn89⟩
              · skip
                refine lv_if_ne (tgt := 97) hx hb dX4_text_92 (by decide) (fun _ => ?_) (fun c9 => absurd c9 (by decide))
                refine lv_iload_n hx hb dX4_text_97 rfl (lv_at hl 4 rfl) ?_
                by_cases q98_0 : what = 0
                · skip
                  subst q98_0
                  refine lv_lookup (tgt := 124) hx hb dX4_text_98 (by decide) rfl (by decide) ?_
                  refine lv_aload_n hx hb dX4_text_124 rfl (lv_at hl 1 rfl) ?_
                  refine va_get (D := gD G) (ci := 4) (v := .ref (h 10)) (C := RX4) (T := TX4) (N := 9) hx hb hts hiX4 hown hK hP 0 rfl rfl 0 (by decide) k10 (fun _ h9 => h9) rfl dX4_text_125 ?_
                  refine va_getN (D := gD G) (ci := 3) (v := .ref (h 16)) (C := RX3) (T := TX3) (N := 9) hx hb hts hiX3 hown hK hP 3 rfl rfl 6 (by decide) k136 (fun _ h9 => h9) rfl dX4_text_128 ?_
                  refine lv_iload hx hb dX4_text_131 (lv_at hl 0 rfl) ?_
                  refine ialdN (f := wn.2 6) (n := 120) (k := i78) hx hb hK hP 8 rfl rfl (by omega) dX4_text_133 ?_
                  exact W.iret (v := (wn.2 6) i78) hx hb hr (fun t ht hW => ⟨(wn.2 6) i78, rfl, by first | rfl | trivial | omega | assumption, ht⟩) (fun _ h9 => by cases h9) dX4_text_134
                by_cases q98_1 : what = 1
                · skip
                  subst q98_1
                  refine lv_lookup (tgt := 135) hx hb dX4_text_98 (by decide) rfl (by decide) ?_
                  refine lv_aload_n hx hb dX4_text_135 rfl (lv_at hl 1 rfl) ?_
                  refine va_get (D := gD G) (ci := 4) (v := .ref (h 10)) (C := RX4) (T := TX4) (N := 9) hx hb hts hiX4 hown hK hP 0 rfl rfl 0 (by decide) k10 (fun _ h9 => h9) rfl dX4_text_136 ?_
                  refine va_getN (D := gD G) (ci := 3) (v := .ref (h 17)) (C := RX3) (T := TX3) (N := 9) hx hb hts hiX3 hown hK hP 3 rfl rfl 7 (by decide) k139 (fun _ h9 => h9) rfl dX4_text_139 ?_
                  refine lv_iload hx hb dX4_text_142 (lv_at hl 0 rfl) ?_
                  refine ialdN (f := wn.2 7) (n := 120) (k := i78) hx hb hK hP 9 rfl rfl (by omega) dX4_text_144 ?_
                  exact W.iret (v := (wn.2 7) i78) hx hb hr (fun t ht hW => ⟨(wn.2 7) i78, rfl, by first | rfl | trivial | omega | assumption, ht⟩) (fun _ h9 => by cases h9) dX4_text_145
                refine lv_lookup (tgt := 146) hx hb dX4_text_98 (by decide) ((lv_osw q98_0 rfl).trans ((lv_osw q98_1 rfl).trans (rfl))) (by decide) ?_
                refine lv_iload hx hb dX4_text_146 (lv_at hl 0 rfl) ?_
                exact W.iret (v := nI (i78)) hx hb hr (fun t ht hW => ⟨nI (i78), rfl, by first | rfl | trivial | omega | assumption, ht⟩) (fun _ h9 => by cases h9) dX4_text_148
              · skip
                refine lv_if_ne (tgt := 97) hx hb dX4_text_92 (by decide) (fun c9 => absurd (by decide) c9) (fun _ => ?_)
                refine lv_iconst (v := (-1 : Int32)) hx hb dX4_text_95 (by decide) ?_
                exact W.iret (v := (-1 : Int32)) hx hb hr (fun t ht hW => ⟨(-1 : Int32), rfl, by first | rfl | trivial | omega | assumption, ht⟩) (fun _ h9 => by cases h9) dX4_text_96
            · skip
              refine lv_istore (lv' := [(4, .int (-1 : Int32)), (0, .ref (h 0)), (1, .int (nI a1)), (2, .int i), (3, .int what)]) hx hb dX4_text_81 hl (by decide) rfl (fun ls hl => ?_)
              refine lv_aload_n hx hb dX4_text_83 rfl (lv_at hl 1 rfl) ?_
              refine va_get (D := gD G) (ci := 4) (v := .ref (h 10)) (C := RX4) (T := TX4) (N := 9) hx hb hts hiX4 hown hK hP 0 rfl rfl 0 (by decide) k10 (fun _ h9 => h9) rfl dX4_text_84 ?_
              refine lv_iload hx hb dX4_text_87 (lv_at hl 0 rfl) ?_
              refine cRi (w := wv G (fun k => h (10 + k)) wn) (As := [.int (-1 : Int32)]) (rest := []) ⟨hx, hb, hml, hown, hts⟩ (mt_X3_hasLine l G (fun k => h (10 + k)) wn nl (-1 : Int32) (hnl) (by first | assumption | omega)) (cwV 1 hts gX4_text_X3_hasLine rfl rfl rfl (by decide +kernel) ⟨Nat.le_of_ble_eq_true rfl, Nat.le_of_ble_eq_true rfl⟩) hK hN (hP.sub [3, 4, 5, 6, 7, 8, 9, 10] rfl) 0 3 rfl rfl rfl hl.1 rfl (Nat.le_of_ble_eq_true rfl) ⟨Nat.zero_le _, Nat.zero_le _⟩ dX4_text_89 (fun r89 hw89 => ?_)
              rcases hw89 with ⟨rfl, j89, hj89, ej89⟩ | ⟨rfl, hn89⟩
              · skip
                exact absurd ej89.symm (nI_nm1 (by omega))
              · skip
                refine lv_if_ne (tgt := 97) hx hb dX4_text_92 (by decide) (fun c9 => absurd (by decide) c9) (fun _ => ?_)
                refine lv_iconst (v := (-1 : Int32)) hx hb dX4_text_95 (by decide) ?_
                exact W.iret (v := (-1 : Int32)) hx hb hr (fun t ht hW => ⟨(-1 : Int32), rfl, by first | rfl | trivial | omega | assumption, ht⟩) (fun _ h9 => by cases h9) dX4_text_96
          · skip
            refine lv_ldc (v := (-1000000002 : Int32)) hx hb hown (hts (.constant RX4 56 (-1000000002)) (List.mem_of_getElem? (i := 3) rfl)) dX4_text_32 ?_
            exact W.iret (v := (-1000000002 : Int32)) hx hb hr (fun t ht hW => ⟨(-1000000002 : Int32), rfl, by first | rfl | trivial | omega | assumption, ht⟩) (fun _ h9 => by cases h9) dX4_text_34
    · skip
      refine lv_if_ne (tgt := 19) hx hb dX4_text_13 (by decide) (fun c9 => absurd (by decide) c9) (fun _ => ?_)
      refine lv_ldc (v := (-1000000001 : Int32)) hx hb hown (hts (.constant RX4 110 (-1000000001)) (List.mem_of_getElem? (i := 2) rfl)) dX4_text_16 ?_
      exact W.iret (v := (-1000000001 : Int32)) hx hb hr (fun t ht hW => ⟨(-1000000001 : Int32), rfl, by first | rfl | trivial | omega | assumption, ht⟩) (fun _ h9 => by cases h9) dX4_text_18
set_option maxHeartbeats 1000000 in
set_option maxRecDepth 100000 in
theorem mt_X4_share (l : Launch) (G : gG) (h : Nat → Nat) (x : oS) (wn : oS) (wa : oS) (w0 : oS) (w1 : oS) (rd : oS) (wr : oS) (z : oS) (jj : Nat → Nat → Int64) (lt : Int64) (nv : Nat) (nl : Nat) (a : Int32) (b : Int32) (hnv : wn.1 0 = nI nv) (hnl : wn.1 5 = nI nl) (hnv24 : nv ≤ 24) (hnl120 : nl ≤ 120) : Met l yX4_share wsX4_share ({ frames := 2, cells := 0, slots := 0, locals := 46 }) (preR G (xw G h x wn wa w0 w1 rd wr z jj lt) [.ref (h 0), .int a, .int b]) (vp_Si (fun r : Int32 => True)) 0 0 (fun _ => False) := by
  refine Met.ofW (cc := cX4_share) (maxL := 3) (ret := (some .int)) (by decide) rfl ?_
  intro p e s m args below meth c s₁ B hml hv
  obtain ⟨ha, hP, hK, hN⟩ := hv
  subst ha
  have hx := B.exec
  have hb := B.bytes
  have hr := B.returns
  have hts := atoms_spec (ws := wsX4_share) B.pre
  have hown : s.vm.findClass RX4 = some m.cls := findClass_of_methodNamed B.named
  have hlocks := B.notSynchronized
  have hiX4 : ∀ w ∈ wsX40, w ∈ wsX4_share := by decide +kernel
  have k10 := hts (.fieldLink RX4 10 "WovenHistory" "now" "LWovenHistory$Weave;") (List.mem_of_getElem? (i := 1) rfl)
  have hiX3 : ∀ w ∈ wsX30, w ∈ wsX4_share := by decide +kernel
  have k115 : (Cond.fieldLinkNest "WovenHistory" 115 "WovenHistory$Weave" "changes" "[I" "WovenHistory").before _ s = true := va_Nw.use (A := ([.ref (h 0), .int a, .int b] : List Value).toArray) rfl (hN.1 ("WovenHistory", 115, "WovenHistory$Weave", "changes", "[I") (List.mem_of_getElem? (i := 1) rfl))
  have hl := lv_entry ([.ref (h 0), .int a, .int b]) (n := 3) (Nat.le_of_ble_eq_true rfl)
  rw [lg_entry_eq]
  generalize (lg_sl ([.ref (h 0), .int a, .int b]) ++ List.replicate (3 - (lg_sl ([.ref (h 0), .int a, .int b])).length) Slot.unset).toArray = ls at hl ⊢
  have hl : lv_has ls 3 [(0, .ref (h 0)), (1, .int a), (2, .int b)] := hl
  refine lv_aload_n hx hb dX4_share_0 rfl (lv_at hl 0 rfl) ?_
  refine va_get (D := gD G) (ci := 4) (v := .ref (h 10)) (C := RX4) (T := TX4) (N := 9) hx hb hts hiX4 hown hK hP 0 rfl rfl 0 (by decide) k10 (fun _ h9 => h9) rfl dX4_share_1 ?_
  refine lv_iload_n hx hb dX4_share_4 rfl (lv_at hl 1 rfl) ?_
  refine cRi (w := wv G (fun k => h (10 + k)) wn) (As := [.int a]) (rest := []) ⟨hx, hb, hml, hown, hts⟩ (mt_X3_hasVersion l G (fun k => h (10 + k)) wn nv a (hnv) (by first | assumption | omega)) (cwV 1 hts gX4_share_X3_hasVersion rfl rfl rfl (by decide +kernel) ⟨Nat.le_of_ble_eq_true rfl, Nat.le_of_ble_eq_true rfl⟩) hK hN (hP.sub [3, 4, 5, 6, 7, 8, 9, 10] rfl) 0 3 rfl rfl rfl hl.1 rfl (Nat.le_of_ble_eq_true rfl) ⟨Nat.zero_le _, Nat.zero_le _⟩ dX4_share_5 (fun r5 hw5 => ?_)
  rcases hw5 with ⟨rfl, a1, ha1, rfl⟩ | ⟨rfl, hna1⟩
  · skip
    refine lv_if_eq (tgt := 22) hx hb dX4_share_8 (by decide) (fun c9 => absurd c9 (by decide)) (fun _ => ?_)
    refine lv_aload_n hx hb dX4_share_11 rfl (lv_at hl 0 rfl) ?_
    refine va_get (D := gD G) (ci := 4) (v := .ref (h 10)) (C := RX4) (T := TX4) (N := 9) hx hb hts hiX4 hown hK hP 0 rfl rfl 0 (by decide) k10 (fun _ h9 => h9) rfl dX4_share_12 ?_
    refine lv_iload_n hx hb dX4_share_15 rfl (lv_at hl 2 rfl) ?_
    refine cRi (w := wv G (fun k => h (10 + k)) wn) (As := [.int b]) (rest := []) ⟨hx, hb, hml, hown, hts⟩ (mt_X3_hasVersion l G (fun k => h (10 + k)) wn nv b (hnv) (by first | assumption | omega)) (cwV 1 hts gX4_share_X3_hasVersion rfl rfl rfl (by decide +kernel) ⟨Nat.le_of_ble_eq_true rfl, Nat.le_of_ble_eq_true rfl⟩) hK hN (hP.sub [3, 4, 5, 6, 7, 8, 9, 10] rfl) 0 3 rfl rfl rfl hl.1 rfl (Nat.le_of_ble_eq_true rfl) ⟨Nat.zero_le _, Nat.zero_le _⟩ dX4_share_16 (fun r16 hw16 => ?_)
    rcases hw16 with ⟨rfl, j16, hj16, ej16⟩ | ⟨rfl, hn16⟩
    · skip
      refine lv_if_ne (tgt := 25) hx hb dX4_share_19 (by decide) (fun _ => ?_) (fun c9 => absurd c9 (by decide))
      refine lv_aload_n hx hb dX4_share_25 rfl (lv_at hl 0 rfl) ?_
      refine va_get (D := gD G) (ci := 4) (v := .ref (h 10)) (C := RX4) (T := TX4) (N := 9) hx hb hts hiX4 hown hK hP 0 rfl rfl 0 (by decide) k10 (fun _ h9 => h9) rfl dX4_share_26 ?_
      refine lv_aload_n hx hb dX4_share_29 rfl (lv_at hl 0 rfl) ?_
      refine va_get (D := gD G) (ci := 4) (v := .ref (h 10)) (C := RX4) (T := TX4) (N := 9) hx hb hts hiX4 hown hK hP 0 rfl rfl 0 (by decide) k10 (fun _ h9 => h9) rfl dX4_share_30 ?_
      refine va_getN (D := gD G) (ci := 3) (v := .ref (h 14)) (C := RX3) (T := TX3) (N := 9) hx hb hts hiX3 hown hK hP 3 rfl rfl 4 (by decide) k115 (fun _ h9 => h9) rfl dX4_share_33 ?_
      refine lv_iload_n hx hb dX4_share_36 rfl (lv_at hl 1 rfl) ?_
      refine ialdN (f := wn.2 4) (n := 24) (k := a1) hx hb hK hP 7 rfl rfl (by omega) dX4_share_37 ?_
      refine lv_iload_n hx hb dX4_share_38 rfl (lv_at hl 2 rfl) ?_
      refine cRi (w := wv G (fun k => h (10 + k)) wn) (As := [.int ((wn.2 4) a1), .int b]) (rest := []) ⟨hx, hb, hml, hown, hts⟩ (mt_X3_countShare l G (fun k => h (10 + k)) wn nl ((wn.2 4) a1) b (hnl) (by first | assumption | omega)) (cwV 2 hts gX4_share_X3_countShare rfl rfl rfl (by decide +kernel) ⟨Nat.le_of_ble_eq_true rfl, Nat.le_of_ble_eq_true rfl⟩) hK hN (hP.sub [3, 4, 5, 6, 7, 8, 9, 10] rfl) 0 3 rfl rfl rfl hl.1 rfl (Nat.le_of_ble_eq_true rfl) ⟨Nat.zero_le _, Nat.zero_le _⟩ dX4_share_39 (fun r39 hw39 => ?_)
      exact W.iret (v := r39) hx hb hr (fun t ht hW => ⟨r39, rfl, by first | rfl | trivial | omega | assumption, ht⟩) (fun _ h9 => by cases h9) dX4_share_42
    · skip
      refine lv_if_ne (tgt := 25) hx hb dX4_share_19 (by decide) (fun c9 => absurd (by decide) c9) (fun _ => ?_)
      refine lv_ldc (v := (-1000000001 : Int32)) hx hb hown (hts (.constant RX4 110 (-1000000001)) (List.mem_of_getElem? (i := 2) rfl)) dX4_share_22 ?_
      exact W.iret (v := (-1000000001 : Int32)) hx hb hr (fun t ht hW => ⟨(-1000000001 : Int32), rfl, by first | rfl | trivial | omega | assumption, ht⟩) (fun _ h9 => by cases h9) dX4_share_24
  · skip
    refine lv_if_eq (tgt := 22) hx hb dX4_share_8 (by decide) (fun _ => ?_) (fun c9 => absurd (by decide) c9)
    refine lv_ldc (v := (-1000000001 : Int32)) hx hb hown (hts (.constant RX4 110 (-1000000001)) (List.mem_of_getElem? (i := 2) rfl)) dX4_share_22 ?_
    exact W.iret (v := (-1000000001 : Int32)) hx hb hr (fun t ht hW => ⟨(-1000000001 : Int32), rfl, by first | rfl | trivial | omega | assumption, ht⟩) (fun _ h9 => by cases h9) dX4_share_24
set_option maxHeartbeats 1000000 in
set_option maxRecDepth 100000 in
theorem mt_X4_alike (l : Launch) (G : gG) (h : Nat → Nat) (x : oS) (wn : oS) (wa : oS) (w0 : oS) (w1 : oS) (rd : oS) (wr : oS) (z : oS) (jj : Nat → Nat → Int64) (lt : Int64) (nv : Nat) (nl : Nat) (a : Int32) (b : Int32) (what : Int32) (hnv : wn.1 0 = nI nv) (hnl : wn.1 5 = nI nl) (hnv24 : nv ≤ 24) (hnl120 : nl ≤ 120) : Met l yX4_alike wsX4_alike ({ frames := 3, cells := 0, slots := 0, locals := 67 }) (preR G (xw G h x wn wa w0 w1 rd wr z jj lt) [.ref (h 0), .int a, .int b, .int what]) (vp_Si (fun r : Int32 => True)) 0 0 (fun _ => False) := by
  refine Met.ofW (cc := cX4_alike) (maxL := 7) (ret := (some .int)) (by decide) rfl ?_
  intro p e s m args below meth c s₁ B hml hv
  obtain ⟨ha, hP, hK, hN⟩ := hv
  subst ha
  have hx := B.exec
  have hb := B.bytes
  have hr := B.returns
  have hts := atoms_spec (ws := wsX4_alike) B.pre
  have hown : s.vm.findClass RX4 = some m.cls := findClass_of_methodNamed B.named
  have hlocks := B.notSynchronized
  have hiX4 : ∀ w ∈ wsX40, w ∈ wsX4_alike := by decide +kernel
  have k10 := hts (.fieldLink RX4 10 "WovenHistory" "now" "LWovenHistory$Weave;") (List.mem_of_getElem? (i := 2) rfl)
  have hiX3 : ∀ w ∈ wsX30, w ∈ wsX4_alike := by decide +kernel
  have k115 : (Cond.fieldLinkNest "WovenHistory" 115 "WovenHistory$Weave" "changes" "[I" "WovenHistory").before _ s = true := va_Nw.use (A := ([.ref (h 0), .int a, .int b, .int what] : List Value).toArray) rfl (hN.1 ("WovenHistory", 115, "WovenHistory$Weave", "changes", "[I") (List.mem_of_getElem? (i := 1) rfl))
  have hl := lv_entry ([.ref (h 0), .int a, .int b, .int what]) (n := 7) (Nat.le_of_ble_eq_true rfl)
  rw [lg_entry_eq]
  generalize (lg_sl ([.ref (h 0), .int a, .int b, .int what]) ++ List.replicate (7 - (lg_sl ([.ref (h 0), .int a, .int b, .int what])).length) Slot.unset).toArray = ls at hl ⊢
  have hl : lv_has ls 7 [(0, .ref (h 0)), (1, .int a), (2, .int b), (3, .int what)] := hl
  refine lv_aload_n hx hb dX4_alike_0 rfl (lv_at hl 0 rfl) ?_
  refine lv_iload_n hx hb dX4_alike_1 rfl (lv_at hl 1 rfl) ?_
  refine lv_iload_n hx hb dX4_alike_2 rfl (lv_at hl 2 rfl) ?_
  refine cRi (w := xw G h x wn wa w0 w1 rd wr z jj lt) (As := [.int a, .int b]) (rest := []) ⟨hx, hb, hml, hown, hts⟩ (mt_X4_areTwoVersions l G h x wn wa w0 w1 rd wr z jj lt nv nl a b (hnv) (hnl) (by first | assumption | omega) (by first | assumption | omega)) (cwV 2 hts gX4_alike_X4_areTwoVersions rfl rfl rfl (by decide +kernel) ⟨Nat.le_of_ble_eq_true rfl, Nat.le_of_ble_eq_true rfl⟩) hK hN hP 0 4 rfl rfl rfl hl.1 rfl (Nat.le_of_ble_eq_true rfl) ⟨Nat.zero_le _, Nat.zero_le _⟩ dX4_alike_3 (fun r3 hw3 => ?_)
  rcases hw3 with ⟨rfl, ⟨a1, ha1, rfl⟩, b1, hb1, rfl⟩ | rfl
  · skip
    refine lv_if_ne (tgt := 12) hx hb dX4_alike_6 (by decide) (fun _ => ?_) (fun c9 => absurd c9 (by decide))
    refine lv_aload_n hx hb dX4_alike_12 rfl (lv_at hl 0 rfl) ?_
    refine va_get (D := gD G) (ci := 4) (v := .ref (h 10)) (C := RX4) (T := TX4) (N := 9) hx hb hts hiX4 hown hK hP 0 rfl rfl 0 (by decide) k10 (fun _ h9 => h9) rfl dX4_alike_13 ?_
    refine va_getN (D := gD G) (ci := 3) (v := .ref (h 14)) (C := RX3) (T := TX3) (N := 9) hx hb hts hiX3 hown hK hP 3 rfl rfl 4 (by decide) k115 (fun _ h9 => h9) rfl dX4_alike_16 ?_
    refine lv_iload_n hx hb dX4_alike_19 rfl (lv_at hl 1 rfl) ?_
    refine ialdN (f := wn.2 4) (n := 24) (k := a1) hx hb hK hP 7 rfl rfl (by omega) dX4_alike_20 ?_
    refine lv_istore (lv' := [(4, .int ((wn.2 4) a1)), (0, .ref (h 0)), (1, .int (nI a1)), (2, .int (nI b1)), (3, .int what)]) hx hb dX4_alike_21 hl (by decide) rfl (fun ls hl => ?_)
    refine lv_aload_n hx hb dX4_alike_23 rfl (lv_at hl 1 rfl) ?_
    refine va_get (D := gD G) (ci := 4) (v := .ref (h 10)) (C := RX4) (T := TX4) (N := 9) hx hb hts hiX4 hown hK hP 0 rfl rfl 0 (by decide) k10 (fun _ h9 => h9) rfl dX4_alike_24 ?_
    refine va_getN (D := gD G) (ci := 3) (v := .ref (h 14)) (C := RX3) (T := TX3) (N := 9) hx hb hts hiX3 hown hK hP 3 rfl rfl 4 (by decide) k115 (fun _ h9 => h9) rfl dX4_alike_27 ?_
    refine lv_iload_n hx hb dX4_alike_30 rfl (lv_at hl 3 rfl) ?_
    refine ialdN (f := wn.2 4) (n := 24) (k := b1) hx hb hK hP 7 rfl rfl (by omega) dX4_alike_31 ?_
    refine lv_istore (lv' := [(5, .int ((wn.2 4) b1)), (4, .int ((wn.2 4) a1)), (0, .ref (h 0)), (1, .int (nI a1)), (2, .int (nI b1)), (3, .int what)]) hx hb dX4_alike_32 hl (by decide) rfl (fun ls hl => ?_)
    refine lv_aload_n hx hb dX4_alike_34 rfl (lv_at hl 2 rfl) ?_
    refine va_get (D := gD G) (ci := 4) (v := .ref (h 10)) (C := RX4) (T := TX4) (N := 9) hx hb hts hiX4 hown hK hP 0 rfl rfl 0 (by decide) k10 (fun _ h9 => h9) rfl dX4_alike_35 ?_
    refine lv_iload hx hb dX4_alike_38 (lv_at hl 1 rfl) ?_
    refine lv_iload hx hb dX4_alike_40 (lv_at hl 0 rfl) ?_
    refine cRi (w := wv G (fun k => h (10 + k)) wn) (As := [.int ((wn.2 4) a1), .int ((wn.2 4) b1)]) (rest := []) ⟨hx, hb, hml, hown, hts⟩ (mt_X3_countInBoth l G (fun k => h (10 + k)) wn nl ((wn.2 4) a1) ((wn.2 4) b1) (hnl) (by first | assumption | omega)) (cwV 2 hts gX4_alike_X3_countInBoth rfl rfl rfl (by decide +kernel) ⟨Nat.le_of_ble_eq_true rfl, Nat.le_of_ble_eq_true rfl⟩) hK hN (hP.sub [3, 4, 5, 6, 7, 8, 9, 10] rfl) 0 3 rfl rfl rfl hl.1 rfl (Nat.le_of_ble_eq_true rfl) ⟨Nat.zero_le _, Nat.zero_le _⟩ dX4_alike_42 (fun r42 hw42 => ?_)
    obtain rfl := hw42
    refine lv_istore (lv' := [(6, .int (nI (cnt (fun i => sdb (wn.2 7) (wn.2 8) ((wn.2 4) a1) i && sdb (wn.2 7) (wn.2 8) ((wn.2 4) b1) i) nl))), (5, .int ((wn.2 4) b1)), (4, .int ((wn.2 4) a1)), (0, .ref (h 0)), (1, .int (nI a1)), (2, .int (nI b1)), (3, .int what)]) hx hb dX4_alike_45 hl (by decide) rfl (fun ls hl => ?_)
    refine lv_iload_n hx hb dX4_alike_47 rfl (lv_at hl 6 rfl) ?_
    by_cases q48_0 : what = 0
    · skip
      subst q48_0
      refine lv_tableIn (tgt := 80) hx hb dX4_alike_48 (by decide) (by decide) rfl (by decide) ?_
      refine lv_iload hx hb dX4_alike_80 (lv_at hl 0 rfl) ?_
      exact W.iret (v := nI (cnt (fun i => sdb (wn.2 7) (wn.2 8) ((wn.2 4) a1) i && sdb (wn.2 7) (wn.2 8) ((wn.2 4) b1) i) nl)) hx hb hr (fun t ht hW => ⟨nI (cnt (fun i => sdb (wn.2 7) (wn.2 8) ((wn.2 4) a1) i && sdb (wn.2 7) (wn.2 8) ((wn.2 4) b1) i) nl), rfl, by first | rfl | trivial | omega | assumption, ht⟩) (fun _ h9 => by cases h9) dX4_alike_82
    by_cases q48_1 : what = 1
    · skip
      subst q48_1
      refine lv_tableIn (tgt := 83) hx hb dX4_alike_48 (by decide) (by decide) rfl (by decide) ?_
      refine lv_aload_n hx hb dX4_alike_83 rfl (lv_at hl 3 rfl) ?_
      refine va_get (D := gD G) (ci := 4) (v := .ref (h 10)) (C := RX4) (T := TX4) (N := 9) hx hb hts hiX4 hown hK hP 0 rfl rfl 0 (by decide) k10 (fun _ h9 => h9) rfl dX4_alike_84 ?_
      refine lv_iload hx hb dX4_alike_87 (lv_at hl 2 rfl) ?_
      refine cRi (w := wv G (fun k => h (10 + k)) wn) (As := [.int ((wn.2 4) a1)]) (rest := []) ⟨hx, hb, hml, hown, hts⟩ (mt_X3_countStanding l G (fun k => h (10 + k)) wn nl ((wn.2 4) a1) (hnl) (by first | assumption | omega)) (cwV 1 hts gX4_alike_X3_countStanding rfl rfl rfl (by decide +kernel) ⟨Nat.le_of_ble_eq_true rfl, Nat.le_of_ble_eq_true rfl⟩) hK hN (hP.sub [3, 4, 5, 6, 7, 8, 9, 10] rfl) 0 3 rfl rfl rfl hl.1 rfl (Nat.le_of_ble_eq_true rfl) ⟨Nat.zero_le _, Nat.zero_le _⟩ dX4_alike_89 (fun r89 hw89 => ?_)
      obtain rfl := hw89
      have hc89 := cnt_le (sdb (wn.2 7) (wn.2 8) ((wn.2 4) a1)) nl
      refine lv_iload hx hb dX4_alike_92 (lv_at hl 0 rfl) ?_
      refine lv_isub hx hb dX4_alike_94 ?_
      exact W.iret (v := (nI (cnt (sdb (wn.2 7) (wn.2 8) ((wn.2 4) a1)) nl)) - (nI (cnt (fun i => sdb (wn.2 7) (wn.2 8) ((wn.2 4) a1) i && sdb (wn.2 7) (wn.2 8) ((wn.2 4) b1) i) nl))) hx hb hr (fun t ht hW => ⟨(nI (cnt (sdb (wn.2 7) (wn.2 8) ((wn.2 4) a1)) nl)) - (nI (cnt (fun i => sdb (wn.2 7) (wn.2 8) ((wn.2 4) a1) i && sdb (wn.2 7) (wn.2 8) ((wn.2 4) b1) i) nl)), rfl, by first | rfl | trivial | omega | assumption, ht⟩) (fun _ h9 => by cases h9) dX4_alike_95
    by_cases q48_2 : what = 2
    · skip
      subst q48_2
      refine lv_tableIn (tgt := 96) hx hb dX4_alike_48 (by decide) (by decide) rfl (by decide) ?_
      refine lv_aload_n hx hb dX4_alike_96 rfl (lv_at hl 3 rfl) ?_
      refine va_get (D := gD G) (ci := 4) (v := .ref (h 10)) (C := RX4) (T := TX4) (N := 9) hx hb hts hiX4 hown hK hP 0 rfl rfl 0 (by decide) k10 (fun _ h9 => h9) rfl dX4_alike_97 ?_
      refine lv_iload hx hb dX4_alike_100 (lv_at hl 1 rfl) ?_
      refine cRi (w := wv G (fun k => h (10 + k)) wn) (As := [.int ((wn.2 4) b1)]) (rest := []) ⟨hx, hb, hml, hown, hts⟩ (mt_X3_countStanding l G (fun k => h (10 + k)) wn nl ((wn.2 4) b1) (hnl) (by first | assumption | omega)) (cwV 1 hts gX4_alike_X3_countStanding rfl rfl rfl (by decide +kernel) ⟨Nat.le_of_ble_eq_true rfl, Nat.le_of_ble_eq_true rfl⟩) hK hN (hP.sub [3, 4, 5, 6, 7, 8, 9, 10] rfl) 0 3 rfl rfl rfl hl.1 rfl (Nat.le_of_ble_eq_true rfl) ⟨Nat.zero_le _, Nat.zero_le _⟩ dX4_alike_102 (fun r102 hw102 => ?_)
      obtain rfl := hw102
      have hc102 := cnt_le (sdb (wn.2 7) (wn.2 8) ((wn.2 4) b1)) nl
      refine lv_iload hx hb dX4_alike_105 (lv_at hl 0 rfl) ?_
      refine lv_isub hx hb dX4_alike_107 ?_
      exact W.iret (v := (nI (cnt (sdb (wn.2 7) (wn.2 8) ((wn.2 4) b1)) nl)) - (nI (cnt (fun i => sdb (wn.2 7) (wn.2 8) ((wn.2 4) a1) i && sdb (wn.2 7) (wn.2 8) ((wn.2 4) b1) i) nl))) hx hb hr (fun t ht hW => ⟨(nI (cnt (sdb (wn.2 7) (wn.2 8) ((wn.2 4) b1)) nl)) - (nI (cnt (fun i => sdb (wn.2 7) (wn.2 8) ((wn.2 4) a1) i && sdb (wn.2 7) (wn.2 8) ((wn.2 4) b1) i) nl)), rfl, by first | rfl | trivial | omega | assumption, ht⟩) (fun _ h9 => by cases h9) dX4_alike_108
    by_cases q48_3 : what = 3
    · skip
      subst q48_3
      refine lv_tableIn (tgt := 109) hx hb dX4_alike_48 (by decide) (by decide) rfl (by decide) ?_
      refine lv_aload_n hx hb dX4_alike_109 rfl (lv_at hl 3 rfl) ?_
      refine va_get (D := gD G) (ci := 4) (v := .ref (h 10)) (C := RX4) (T := TX4) (N := 9) hx hb hts hiX4 hown hK hP 0 rfl rfl 0 (by decide) k10 (fun _ h9 => h9) rfl dX4_alike_110 ?_
      refine lv_iload hx hb dX4_alike_113 (lv_at hl 2 rfl) ?_
      refine lv_iload hx hb dX4_alike_115 (lv_at hl 1 rfl) ?_
      refine cRi (w := wv G (fun k => h (10 + k)) wn) (As := [.int ((wn.2 4) a1), .int ((wn.2 4) b1)]) (rest := []) ⟨hx, hb, hml, hown, hts⟩ (mt_X3_findPart l G (fun k => h (10 + k)) wn nl ((wn.2 4) a1) ((wn.2 4) b1) (hnl) (by first | assumption | omega)) (cwV 2 hts gX4_alike_X3_findPart rfl rfl rfl (by decide +kernel) ⟨Nat.le_of_ble_eq_true rfl, Nat.le_of_ble_eq_true rfl⟩) hK hN (hP.sub [3, 4, 5, 6, 7, 8, 9, 10] rfl) 0 3 rfl rfl rfl hl.1 rfl (Nat.le_of_ble_eq_true rfl) ⟨Nat.zero_le _, Nat.zero_le _⟩ dX4_alike_117 (fun r117 hw117 => ?_)
      exact W.iret (v := r117) hx hb hr (fun t ht hW => ⟨r117, rfl, by first | rfl | trivial | omega | assumption, ht⟩) (fun _ h9 => by cases h9) dX4_alike_120
    have t48_0 : ¬ what.toInt = 0 := lv_neT q48_0 rfl
    have t48_1 : ¬ what.toInt = 1 := lv_neT q48_1 rfl
    have t48_2 : ¬ what.toInt = 2 := lv_neT q48_2 rfl
    have t48_3 : ¬ what.toInt = 3 := lv_neT q48_3 rfl
    refine lv_tableOut (tgt := 121) hx hb dX4_alike_48 (by omega) (by decide) ?_
    refine lv_ldc (v := (-1000000002 : Int32)) hx hb hown (hts (.constant RX4 56 (-1000000002)) (List.mem_of_getElem? (i := 3) rfl)) dX4_alike_121 ?_
    exact W.iret (v := (-1000000002 : Int32)) hx hb hr (fun t ht hW => ⟨(-1000000002 : Int32), rfl, by first | rfl | trivial | omega | assumption, ht⟩) (fun _ h9 => by cases h9) dX4_alike_123
  · skip
    refine lv_if_ne (tgt := 12) hx hb dX4_alike_6 (by decide) (fun c9 => absurd (by decide) c9) (fun _ => ?_)
    refine lv_ldc (v := (-1000000001 : Int32)) hx hb hown (hts (.constant RX4 110 (-1000000001)) (List.mem_of_getElem? (i := 1) rfl)) dX4_alike_9 ?_
    exact W.iret (v := (-1000000001 : Int32)) hx hb hr (fun t ht hW => ⟨(-1000000001 : Int32), rfl, by first | rfl | trivial | omega | assumption, ht⟩) (fun _ h9 => by cases h9) dX4_alike_11
set_option maxHeartbeats 1000000 in
set_option maxRecDepth 100000 in
theorem mt_X4_without (l : Launch) (G : gG) (h : Nat → Nat) (x : oS) (wn : oS) (wa : oS) (w0 : oS) (w1 : oS) (rd : oS) (wr : oS) (z : oS) (jj : Nat → Nat → Int64) (lt : Int64) (nv : Nat) (nl : Nat) (a : Int32) (b : Int32) (hnv : wn.1 0 = nI nv) (hnl : wn.1 5 = nI nl) (hnv24 : nv ≤ 24) (hnl120 : nl ≤ 120) : Met l yX4_without wsX4_without ({ frames := 3, cells := 0, slots := 0, locals := 67 }) (preR G (xw G h x wn wa w0 w1 rd wr z jj lt) [.ref (h 0), .int a, .int b]) (vp_Si (fun r : Int32 => True)) 0 0 (fun _ => False) := by
  refine Met.ofW (cc := cX4_without) (maxL := 3) (ret := (some .int)) (by decide) rfl ?_
  intro p e s m args below meth c s₁ B hml hv
  obtain ⟨ha, hP, hK, hN⟩ := hv
  subst ha
  have hx := B.exec
  have hb := B.bytes
  have hr := B.returns
  have hts := atoms_spec (ws := wsX4_without) B.pre
  have hown : s.vm.findClass RX4 = some m.cls := findClass_of_methodNamed B.named
  have hlocks := B.notSynchronized
  have hiX4 : ∀ w ∈ wsX40, w ∈ wsX4_without := by decide +kernel
  have k10 := hts (.fieldLink RX4 10 "WovenHistory" "now" "LWovenHistory$Weave;") (List.mem_of_getElem? (i := 2) rfl)
  have hiX3 : ∀ w ∈ wsX30, w ∈ wsX4_without := by decide +kernel
  have k115 : (Cond.fieldLinkNest "WovenHistory" 115 "WovenHistory$Weave" "changes" "[I" "WovenHistory").before _ s = true := va_Nw.use (A := ([.ref (h 0), .int a, .int b] : List Value).toArray) rfl (hN.1 ("WovenHistory", 115, "WovenHistory$Weave", "changes", "[I") (List.mem_of_getElem? (i := 1) rfl))
  have hl := lv_entry ([.ref (h 0), .int a, .int b]) (n := 3) (Nat.le_of_ble_eq_true rfl)
  rw [lg_entry_eq]
  generalize (lg_sl ([.ref (h 0), .int a, .int b]) ++ List.replicate (3 - (lg_sl ([.ref (h 0), .int a, .int b])).length) Slot.unset).toArray = ls at hl ⊢
  have hl : lv_has ls 3 [(0, .ref (h 0)), (1, .int a), (2, .int b)] := hl
  refine lv_aload_n hx hb dX4_without_0 rfl (lv_at hl 0 rfl) ?_
  refine lv_iload_n hx hb dX4_without_1 rfl (lv_at hl 1 rfl) ?_
  refine lv_iload_n hx hb dX4_without_2 rfl (lv_at hl 2 rfl) ?_
  refine cRi (w := xw G h x wn wa w0 w1 rd wr z jj lt) (As := [.int a, .int b]) (rest := []) ⟨hx, hb, hml, hown, hts⟩ (mt_X4_areTwoVersions l G h x wn wa w0 w1 rd wr z jj lt nv nl a b (hnv) (hnl) (by first | assumption | omega) (by first | assumption | omega)) (cwV 2 hts gX4_without_X4_areTwoVersions rfl rfl rfl (by decide +kernel) ⟨Nat.le_of_ble_eq_true rfl, Nat.le_of_ble_eq_true rfl⟩) hK hN hP 0 4 rfl rfl rfl hl.1 rfl (Nat.le_of_ble_eq_true rfl) ⟨Nat.zero_le _, Nat.zero_le _⟩ dX4_without_3 (fun r3 hw3 => ?_)
  rcases hw3 with ⟨rfl, ⟨a1, ha1, rfl⟩, b1, hb1, rfl⟩ | rfl
  · skip
    refine lv_if_ne (tgt := 12) hx hb dX4_without_6 (by decide) (fun _ => ?_) (fun c9 => absurd c9 (by decide))
    refine lv_aload_n hx hb dX4_without_12 rfl (lv_at hl 0 rfl) ?_
    refine va_get (D := gD G) (ci := 4) (v := .ref (h 10)) (C := RX4) (T := TX4) (N := 9) hx hb hts hiX4 hown hK hP 0 rfl rfl 0 (by decide) k10 (fun _ h9 => h9) rfl dX4_without_13 ?_
    refine lv_aload_n hx hb dX4_without_16 rfl (lv_at hl 0 rfl) ?_
    refine va_get (D := gD G) (ci := 4) (v := .ref (h 10)) (C := RX4) (T := TX4) (N := 9) hx hb hts hiX4 hown hK hP 0 rfl rfl 0 (by decide) k10 (fun _ h9 => h9) rfl dX4_without_17 ?_
    refine va_getN (D := gD G) (ci := 3) (v := .ref (h 14)) (C := RX3) (T := TX3) (N := 9) hx hb hts hiX3 hown hK hP 3 rfl rfl 4 (by decide) k115 (fun _ h9 => h9) rfl dX4_without_20 ?_
    refine lv_iload_n hx hb dX4_without_23 rfl (lv_at hl 1 rfl) ?_
    refine ialdN (f := wn.2 4) (n := 24) (k := a1) hx hb hK hP 7 rfl rfl (by omega) dX4_without_24 ?_
    refine lv_iload_n hx hb dX4_without_25 rfl (lv_at hl 2 rfl) ?_
    refine cSi (As := [.int (nI b1)]) (rest := [.int ((wn.2 4) a1), .ref (h 10)]) ⟨hx, hb, hml, hown, hts⟩ (mt_X3_only l (nI b1)) (va_cwS 1 hts gX4_without_X3_only rfl rfl rfl (by decide +kernel) ⟨Nat.le_of_ble_eq_true rfl, Nat.le_of_ble_eq_true rfl⟩) rfl hl.1 rfl (Nat.le_of_ble_eq_true rfl) ⟨Nat.zero_le _, Nat.zero_le _⟩ dX4_without_26 (fun r26 hw26 => ?_)
    refine lv_iconst (v := (-1 : Int32)) hx hb dX4_without_29 (by decide) ?_
    refine lv_ixor hx hb dX4_without_30 ?_
    refine lv_iand hx hb dX4_without_31 ?_
    refine cRi (w := wv G (fun k => h (10 + k)) wn) (As := [.int (((wn.2 4) a1) &&& (r26 ^^^ (-1 : Int32)))]) (rest := []) ⟨hx, hb, hml, hown, hts⟩ (mt_X3_countStanding l G (fun k => h (10 + k)) wn nl (((wn.2 4) a1) &&& (r26 ^^^ (-1 : Int32))) (hnl) (by first | assumption | omega)) (cwV 1 hts gX4_without_X3_countStanding rfl rfl rfl (by decide +kernel) ⟨Nat.le_of_ble_eq_true rfl, Nat.le_of_ble_eq_true rfl⟩) hK hN (hP.sub [3, 4, 5, 6, 7, 8, 9, 10] rfl) 0 3 rfl rfl rfl hl.1 rfl (Nat.le_of_ble_eq_true rfl) ⟨Nat.zero_le _, Nat.zero_le _⟩ dX4_without_32 (fun r32 hw32 => ?_)
    obtain rfl := hw32
    have hc32 := cnt_le (sdb (wn.2 7) (wn.2 8) (((wn.2 4) a1) &&& (r26 ^^^ (-1 : Int32)))) nl
    exact W.iret (v := nI (cnt (sdb (wn.2 7) (wn.2 8) (((wn.2 4) a1) &&& (r26 ^^^ (-1 : Int32)))) nl)) hx hb hr (fun t ht hW => ⟨nI (cnt (sdb (wn.2 7) (wn.2 8) (((wn.2 4) a1) &&& (r26 ^^^ (-1 : Int32)))) nl), rfl, by first | rfl | trivial | omega | assumption, ht⟩) (fun _ h9 => by cases h9) dX4_without_35
  · skip
    refine lv_if_ne (tgt := 12) hx hb dX4_without_6 (by decide) (fun c9 => absurd (by decide) c9) (fun _ => ?_)
    refine lv_ldc (v := (-1000000001 : Int32)) hx hb hown (hts (.constant RX4 110 (-1000000001)) (List.mem_of_getElem? (i := 1) rfl)) dX4_without_9 ?_
    exact W.iret (v := (-1000000001 : Int32)) hx hb hr (fun t ht hW => ⟨(-1000000001 : Int32), rfl, by first | rfl | trivial | omega | assumption, ht⟩) (fun _ h9 => by cases h9) dX4_without_11
set_option maxHeartbeats 1000000 in
set_option maxRecDepth 100000 in
theorem mt_X4_near (l : Launch) (G : gG) (h : Nat → Nat) (x : oS) (wn : oS) (wa : oS) (w0 : oS) (w1 : oS) (rd : oS) (wr : oS) (z : oS) (jj : Nat → Nat → Int64) (lt : Int64) (nv : Nat) (nl : Nat) (a : Int32) (b : Int32) (hnv : wn.1 0 = nI nv) (hnl : wn.1 5 = nI nl) (hnv24 : nv ≤ 24) (hnl120 : nl ≤ 120) : Met l yX4_near wsX4_near ({ frames := 2, cells := 0, slots := 0, locals := 44 }) (preR G (xw G h x wn wa w0 w1 rd wr z jj lt) [.ref (h 0), .int a, .int b]) (vp_Si (fun r : Int32 => True)) 0 0 (fun _ => False) := by
  refine Met.ofW (cc := cX4_near) (maxL := 5) (ret := (some .int)) (by decide) rfl ?_
  intro p e s m args below meth c s₁ B hml hv
  obtain ⟨ha, hP, hK, hN⟩ := hv
  subst ha
  have hx := B.exec
  have hb := B.bytes
  have hr := B.returns
  have hts := atoms_spec (ws := wsX4_near) B.pre
  have hown : s.vm.findClass RX4 = some m.cls := findClass_of_methodNamed B.named
  have hlocks := B.notSynchronized
  have hiX4 : ∀ w ∈ wsX40, w ∈ wsX4_near := by decide +kernel
  have k10 := hts (.fieldLink RX4 10 "WovenHistory" "now" "LWovenHistory$Weave;") (List.mem_of_getElem? (i := 2) rfl)
  have hl := lv_entry ([.ref (h 0), .int a, .int b]) (n := 5) (Nat.le_of_ble_eq_true rfl)
  rw [lg_entry_eq]
  generalize (lg_sl ([.ref (h 0), .int a, .int b]) ++ List.replicate (5 - (lg_sl ([.ref (h 0), .int a, .int b])).length) Slot.unset).toArray = ls at hl ⊢
  have hl : lv_has ls 5 [(0, .ref (h 0)), (1, .int a), (2, .int b)] := hl
  refine lv_aload_n hx hb dX4_near_0 rfl (lv_at hl 0 rfl) ?_
  refine lv_iload_n hx hb dX4_near_1 rfl (lv_at hl 1 rfl) ?_
  refine lv_iload_n hx hb dX4_near_2 rfl (lv_at hl 2 rfl) ?_
  refine cRi (w := xw G h x wn wa w0 w1 rd wr z jj lt) (As := [.int a, .int b]) (rest := []) ⟨hx, hb, hml, hown, hts⟩ (mt_X4_areTwoVersions l G h x wn wa w0 w1 rd wr z jj lt nv nl a b (hnv) (hnl) (by first | assumption | omega) (by first | assumption | omega)) (cwV 2 hts gX4_near_X4_areTwoVersions rfl rfl rfl (by decide +kernel) ⟨Nat.le_of_ble_eq_true rfl, Nat.le_of_ble_eq_true rfl⟩) hK hN hP 0 4 rfl rfl rfl hl.1 rfl (Nat.le_of_ble_eq_true rfl) ⟨Nat.zero_le _, Nat.zero_le _⟩ dX4_near_3 (fun r3 hw3 => ?_)
  rcases hw3 with ⟨rfl, ⟨a1, ha1, rfl⟩, b1, hb1, rfl⟩ | rfl
  · skip
    refine lv_if_ne (tgt := 12) hx hb dX4_near_6 (by decide) (fun _ => ?_) (fun c9 => absurd c9 (by decide))
    refine lv_aload_n hx hb dX4_near_12 rfl (lv_at hl 0 rfl) ?_
    refine va_get (D := gD G) (ci := 4) (v := .ref (h 10)) (C := RX4) (T := TX4) (N := 9) hx hb hts hiX4 hown hK hP 0 rfl rfl 0 (by decide) k10 (fun _ h9 => h9) rfl dX4_near_13 ?_
    refine lv_iload_n hx hb dX4_near_16 rfl (lv_at hl 1 rfl) ?_
    refine cRi (w := wv G (fun k => h (10 + k)) wn) (As := [.int (nI a1)]) (rest := []) ⟨hx, hb, hml, hown, hts⟩ (mt_X3_lineageOf l G (fun k => h (10 + k)) wn nv (nI a1) (hnv) (by first | assumption | omega)) (cwV 1 hts gX4_near_X3_lineageOf rfl rfl rfl (by decide +kernel) ⟨Nat.le_of_ble_eq_true rfl, Nat.le_of_ble_eq_true rfl⟩) hK hN (hP.sub [3, 4, 5, 6, 7, 8, 9, 10] rfl) 0 3 rfl rfl rfl hl.1 rfl (Nat.le_of_ble_eq_true rfl) ⟨Nat.zero_le _, Nat.zero_le _⟩ dX4_near_17 (fun r17 hw17 => ?_)
    refine lv_aload_n hx hb dX4_near_20 rfl (lv_at hl 0 rfl) ?_
    refine va_get (D := gD G) (ci := 4) (v := .ref (h 10)) (C := RX4) (T := TX4) (N := 9) hx hb hts hiX4 hown hK hP 0 rfl rfl 0 (by decide) k10 (fun _ h9 => h9) rfl dX4_near_21 ?_
    refine lv_iload_n hx hb dX4_near_24 rfl (lv_at hl 2 rfl) ?_
    refine cRi (w := wv G (fun k => h (10 + k)) wn) (As := [.int (nI b1)]) (rest := [.int r17]) ⟨hx, hb, hml, hown, hts⟩ (mt_X3_lineageOf l G (fun k => h (10 + k)) wn nv (nI b1) (hnv) (by first | assumption | omega)) (cwV 1 hts gX4_near_X3_lineageOf rfl rfl rfl (by decide +kernel) ⟨Nat.le_of_ble_eq_true rfl, Nat.le_of_ble_eq_true rfl⟩) hK hN (hP.sub [3, 4, 5, 6, 7, 8, 9, 10] rfl) 0 3 rfl rfl rfl hl.1 rfl (Nat.le_of_ble_eq_true rfl) ⟨Nat.zero_le _, Nat.zero_le _⟩ dX4_near_25 (fun r25 hw25 => ?_)
    refine lv_iand hx hb dX4_near_28 ?_
    refine lv_istore_n (lv' := [(3, .int (r17 &&& r25)), (0, .ref (h 0)), (1, .int (nI a1)), (2, .int (nI b1))]) hx hb dX4_near_29 rfl hl (by decide) rfl (fun ls hl => ?_)
    refine lv_bipush (v := nI 23) hx hb dX4_near_30 (by decide) ?_
    refine lv_istore (lv' := [(4, .int (nI 23)), (3, .int (r17 &&& r25)), (0, .ref (h 0)), (1, .int (nI a1)), (2, .int (nI b1))]) hx hb dX4_near_32 hl (by decide) rfl (fun ls hl => ?_)
    have LP34 : ∀ (n34m : Nat), ∀ (kk : Nat) (x1 : Int32) (hkk : kk ≤ 24), (kk < n34m) → ∀ (ls : Array Slot), lv_has ls 5 [(3, .int x1), (4, .int (nI kk + (-1)))] → W p l e (headSpec wsX4_near ({ frames := 2, cells := 0, slots := 0, locals := 44 })).room s m ([.ref (h 0), .int (nI a1), .int (nI b1)] : List Value).toArray below meth c s.heap [] 0 0 (MQ below (vp_Si (fun r : Int32 => True)) ([.ref (h 0), .int (nI a1), .int (nI b1)] : List Value).toArray s 0 0 (fun _ => False)) (F0 m 34 ls []) := by
      intro n34m
      induction n34m with
      | zero => intro kk x1 hkk hmu ls hl; exact absurd hmu (Nat.not_lt_zero _)
      | succ n34m ih34 =>
        intro kk x1 hkk hmu ls hl
        refine lv_iload hx hb dX4_near_34 (lv_at hl 1 rfl) ?_
        refine lv_if_lt (tgt := 57) hx hb dX4_near_36 (by decide) (fun c36 => ?_) (fun c36 => ?_)
        · skip
          refine lv_iconst (v := (-1 : Int32)) hx hb dX4_near_57 (by decide) ?_
          exact W.iret (v := (-1 : Int32)) hx hb hr (fun t ht hW => ⟨(-1 : Int32), rfl, by first | rfl | trivial | omega | assumption, ht⟩) (fun _ h9 => by cases h9) dX4_near_58
        · skip
          obtain ⟨k36, rfl⟩ := nI_m1pos c36
          rw [pk_m1] at hl
          refine lv_iload_n hx hb dX4_near_39 rfl (lv_at hl 0 rfl) ?_
          refine lv_iload hx hb dX4_near_40 (lv_at hl 1 rfl) ?_
          refine cSi (As := [.int x1, .int (nI k36)]) (rest := []) ⟨hx, hb, hml, hown, hts⟩ (mt_X3_holds l x1 (nI k36)) (va_cwS 2 hts gX4_near_X3_holds rfl rfl rfl (by decide +kernel) ⟨Nat.le_of_ble_eq_true rfl, Nat.le_of_ble_eq_true rfl⟩) rfl hl.1 rfl (Nat.le_of_ble_eq_true rfl) ⟨Nat.zero_le _, Nat.zero_le _⟩ dX4_near_42 (fun r42 hw42 => ?_)
          rcases hw42 with rfl | rfl
          · skip
            refine lv_if_eq (tgt := 51) hx hb dX4_near_45 (by decide) (fun c9 => absurd c9 (by decide)) (fun _ => ?_)
            refine lv_iload hx hb dX4_near_48 (lv_at hl 1 rfl) ?_
            exact W.iret (v := nI k36) hx hb hr (fun t ht hW => ⟨nI k36, rfl, by first | rfl | trivial | omega | assumption, ht⟩) (fun _ h9 => by cases h9) dX4_near_50
          · skip
            refine lv_if_eq (tgt := 51) hx hb dX4_near_45 (by decide) (fun _ => ?_) (fun c9 => absurd (by decide) c9)
            refine lv_iinc (v := (nI k36) + (-1)) (lv' := [(4, .int ((nI k36) + (-1))), (3, .int x1)]) hx hb dX4_near_51 hl (k := 1) rfl (rfl) (by decide) rfl (fun ls hl => ?_)
            refine lv_goto (tgt := 34) hx hb dX4_near_54 (by decide) ?_
            exact ih34 k36 x1 (by first | assumption | omega) (by omega) ls (lv_sub hl [1, 0] rfl)
    exact LP34 (24 + 1) 24 (r17 &&& r25) (by first | assumption | omega) (Nat.lt_succ_self _) ls (lv_sub hl [1, 0] rfl)
  · skip
    refine lv_if_ne (tgt := 12) hx hb dX4_near_6 (by decide) (fun c9 => absurd (by decide) c9) (fun _ => ?_)
    refine lv_ldc (v := (-1000000001 : Int32)) hx hb hown (hts (.constant RX4 110 (-1000000001)) (List.mem_of_getElem? (i := 1) rfl)) dX4_near_9 ?_
    exact W.iret (v := (-1000000001 : Int32)) hx hb hr (fun t ht hW => ⟨(-1000000001 : Int32), rfl, by first | rfl | trivial | omega | assumption, ht⟩) (fun _ h9 => by cases h9) dX4_near_11
set_option maxHeartbeats 1000000 in
set_option maxRecDepth 100000 in
theorem mt_X4_block (l : Launch) (G : gG) (h : Nat → Nat) (x : oS) (wn : oS) (wa : oS) (w0 : oS) (w1 : oS) (rd : oS) (wr : oS) (z : oS) (jj : Nat → Nat → Int64) (lt : Int64) (nv : Nat) (nl : Nat) (a : Int32) (b : Int32) (hnv : wn.1 0 = nI nv) (hnl : wn.1 5 = nI nl) (hnv24 : nv ≤ 24) (hnl120 : nl ≤ 120) : Met l yX4_block wsX4_block ({ frames := 2, cells := 0, slots := 0, locals := 44 }) (preR G (xw G h x wn wa w0 w1 rd wr z jj lt) [.ref (h 0), .int a, .int b]) (vp_Si (fun r : Int32 => True)) 0 0 (fun _ => False) := by
  refine Met.ofW (cc := cX4_block) (maxL := 4) (ret := (some .int)) (by decide) rfl ?_
  intro p e s m args below meth c s₁ B hml hv
  obtain ⟨ha, hP, hK, hN⟩ := hv
  subst ha
  have hx := B.exec
  have hb := B.bytes
  have hr := B.returns
  have hts := atoms_spec (ws := wsX4_block) B.pre
  have hown : s.vm.findClass RX4 = some m.cls := findClass_of_methodNamed B.named
  have hlocks := B.notSynchronized
  have hiX4 : ∀ w ∈ wsX40, w ∈ wsX4_block := by decide +kernel
  have k10 := hts (.fieldLink RX4 10 "WovenHistory" "now" "LWovenHistory$Weave;") (List.mem_of_getElem? (i := 2) rfl)
  have hl := lv_entry ([.ref (h 0), .int a, .int b]) (n := 4) (Nat.le_of_ble_eq_true rfl)
  rw [lg_entry_eq]
  generalize (lg_sl ([.ref (h 0), .int a, .int b]) ++ List.replicate (4 - (lg_sl ([.ref (h 0), .int a, .int b])).length) Slot.unset).toArray = ls at hl ⊢
  have hl : lv_has ls 4 [(0, .ref (h 0)), (1, .int a), (2, .int b)] := hl
  refine lv_iload_n hx hb dX4_block_0 rfl (lv_at hl 1 rfl) ?_
  refine lv_if_lt (tgt := 13) hx hb dX4_block_1 (by decide) (fun c1 => ?_) (fun c1 => ?_)
  · skip
    refine lv_ldc (v := (-1000000002 : Int32)) hx hb hown (hts (.constant RX4 56 (-1000000002)) (List.mem_of_getElem? (i := 1) rfl)) dX4_block_13 ?_
    exact W.iret (v := (-1000000002 : Int32)) hx hb hr (fun t ht hW => ⟨(-1000000002 : Int32), rfl, by first | rfl | trivial | omega | assumption, ht⟩) (fun _ h9 => by cases h9) dX4_block_15
  · skip
    refine lv_iload_n hx hb dX4_block_4 rfl (lv_at hl 2 rfl) ?_
    refine lv_if_lt (tgt := 13) hx hb dX4_block_5 (by decide) (fun c5 => ?_) (fun c5 => ?_)
    · skip
      refine lv_ldc (v := (-1000000002 : Int32)) hx hb hown (hts (.constant RX4 56 (-1000000002)) (List.mem_of_getElem? (i := 1) rfl)) dX4_block_13 ?_
      exact W.iret (v := (-1000000002 : Int32)) hx hb hr (fun t ht hW => ⟨(-1000000002 : Int32), rfl, by first | rfl | trivial | omega | assumption, ht⟩) (fun _ h9 => by cases h9) dX4_block_15
    · skip
      refine lv_iload_n hx hb dX4_block_8 rfl (lv_at hl 2 rfl) ?_
      refine lv_iconst (v := nI 1) hx hb dX4_block_9 (by decide) ?_
      refine lv_icmp_le (tgt := 16) hx hb dX4_block_10 (by decide) (fun c10 => ?_) (fun c10 => ?_)
      · skip
        refine lv_aload_n hx hb dX4_block_16 rfl (lv_at hl 0 rfl) ?_
        refine va_get (D := gD G) (ci := 4) (v := .ref (h 10)) (C := RX4) (T := TX4) (N := 9) hx hb hts hiX4 hown hK hP 0 rfl rfl 0 (by decide) k10 (fun _ h9 => h9) rfl dX4_block_17 ?_
        refine lv_iload_n hx hb dX4_block_20 rfl (lv_at hl 1 rfl) ?_
        refine cRi (w := wv G (fun k => h (10 + k)) wn) (As := [.int a]) (rest := []) ⟨hx, hb, hml, hown, hts⟩ (mt_X3_findBlock l G (fun k => h (10 + k)) wn nl a (hnl) (by first | assumption | omega)) (cwV 1 hts gX4_block_X3_findBlock rfl rfl rfl (by decide +kernel) ⟨Nat.le_of_ble_eq_true rfl, Nat.le_of_ble_eq_true rfl⟩) hK hN (hP.sub [3, 4, 5, 6, 7, 8, 9, 10] rfl) 0 3 rfl rfl rfl hl.1 rfl (Nat.le_of_ble_eq_true rfl) ⟨Nat.zero_le _, Nat.zero_le _⟩ dX4_block_21 (fun r21 hw21 => ?_)
        rcases hw21 with ⟨i21, hi21, rfl⟩ | rfl
        · skip
          refine lv_istore_n (lv' := [(3, .int (nI (i21))), (0, .ref (h 0)), (1, .int a), (2, .int b)]) hx hb dX4_block_24 rfl hl (by decide) rfl (fun ls hl => ?_)
          refine lv_iload_n hx hb dX4_block_25 rfl (lv_at hl 0 rfl) ?_
          refine lv_iconst (v := (-1 : Int32)) hx hb dX4_block_26 (by decide) ?_
          refine lv_icmp_eq (tgt := 34) hx hb dX4_block_27 (by decide) (fun c9 => absurd c9 (nI_nm1 (by omega))) (fun _ => ?_)
          refine lv_iload_n hx hb dX4_block_30 rfl (lv_at hl 3 rfl) ?_
          refine lv_if_ne (tgt := 36) hx hb dX4_block_31 (by decide) (fun c31 => ?_) (fun c31 => ?_)
          · skip
            refine lv_aload_n hx hb dX4_block_36 rfl (lv_at hl 1 rfl) ?_
            refine va_get (D := gD G) (ci := 4) (v := .ref (h 10)) (C := RX4) (T := TX4) (N := 9) hx hb hts hiX4 hown hK hP 0 rfl rfl 0 (by decide) k10 (fun _ h9 => h9) rfl dX4_block_37 ?_
            refine lv_iload_n hx hb dX4_block_40 rfl (lv_at hl 0 rfl) ?_
            refine cRi (w := wv G (fun k => h (10 + k)) wn) (As := [.int (nI (i21))]) (rest := []) ⟨hx, hb, hml, hown, hts⟩ (mt_X3_blockLength l G (fun k => h (10 + k)) wn nl i21 (hnl) (by first | assumption | omega) (by first | assumption | omega)) (cwV 1 hts gX4_block_X3_blockLength rfl rfl rfl (by decide +kernel) ⟨Nat.le_of_ble_eq_true rfl, Nat.le_of_ble_eq_true rfl⟩) hK hN (hP.sub [3, 4, 5, 6, 7, 8, 9, 10] rfl) 0 3 rfl rfl rfl hl.1 rfl (Nat.le_of_ble_eq_true rfl) ⟨Nat.zero_le _, Nat.zero_le _⟩ dX4_block_41 (fun r41 hw41 => ?_)
            exact W.iret (v := r41) hx hb hr (fun t ht hW => ⟨r41, rfl, by first | rfl | trivial | omega | assumption, ht⟩) (fun _ h9 => by cases h9) dX4_block_44
          · skip
            refine lv_iload_n hx hb dX4_block_34 rfl (lv_at hl 0 rfl) ?_
            exact W.iret (v := nI (i21)) hx hb hr (fun t ht hW => ⟨nI (i21), rfl, by first | rfl | trivial | omega | assumption, ht⟩) (fun _ h9 => by cases h9) dX4_block_35
        · skip
          refine lv_istore_n (lv' := [(3, .int (-1 : Int32)), (0, .ref (h 0)), (1, .int a), (2, .int b)]) hx hb dX4_block_24 rfl hl (by decide) rfl (fun ls hl => ?_)
          refine lv_iload_n hx hb dX4_block_25 rfl (lv_at hl 0 rfl) ?_
          refine lv_iconst (v := (-1 : Int32)) hx hb dX4_block_26 (by decide) ?_
          refine lv_icmp_eq (tgt := 34) hx hb dX4_block_27 (by decide) (fun _ => ?_) (fun c9 => absurd (by decide) c9)
          refine lv_iload_n hx hb dX4_block_34 rfl (lv_at hl 0 rfl) ?_
          exact W.iret (v := (-1 : Int32)) hx hb hr (fun t ht hW => ⟨(-1 : Int32), rfl, by first | rfl | trivial | omega | assumption, ht⟩) (fun _ h9 => by cases h9) dX4_block_35
      · skip
        refine lv_ldc (v := (-1000000002 : Int32)) hx hb hown (hts (.constant RX4 56 (-1000000002)) (List.mem_of_getElem? (i := 1) rfl)) dX4_block_13 ?_
        exact W.iret (v := (-1000000002 : Int32)) hx hb hr (fun t ht hW => ⟨(-1000000002 : Int32), rfl, by first | rfl | trivial | omega | assumption, ht⟩) (fun _ h9 => by cases h9) dX4_block_15
set_option maxHeartbeats 1000000 in
set_option maxRecDepth 100000 in
theorem mt_X4_get (l : Launch) (G : gG) (h : Nat → Nat) (x : oS) (wn : oS) (wa : oS) (w0 : oS) (w1 : oS) (rd : oS) (wr : oS) (z : oS) (jj : Nat → Nat → Int64) (lt : Int64) (s1 : Int32) (i1 : Int32) (hsz : ∀ j, j < 4 → z.2 1 j = -1 ∨ ∃ q, q ≤ 40 ∧ z.2 1 j = nI q) : Met l yX4_get wsX4_get ({ frames := 2, cells := 0, slots := 0, locals := 44 }) (preR G (xw G h x wn wa w0 w1 rd wr z jj lt) [.ref (h 0), .int s1, .int i1]) (vp_Sl (fun r : Int64 => True)) 0 0 (fun _ => False) := by
  refine Met.ofW (cc := cX4_get) (maxL := 4) (ret := (some .long)) (by decide) rfl ?_
  intro p e s m args below meth c s₁ B hml hv
  obtain ⟨ha, hP, hK, hN⟩ := hv
  subst ha
  have hx := B.exec
  have hb := B.bytes
  have hr := B.returns
  have hts := atoms_spec (ws := wsX4_get) B.pre
  have hown : s.vm.findClass RX4 = some m.cls := findClass_of_methodNamed B.named
  have hlocks := B.notSynchronized
  have hiX4 : ∀ w ∈ wsX40, w ∈ wsX4_get := by decide +kernel
  have k37 := hts (.fieldLink RX4 37 "WovenHistory" "sheets" "LWovenHistory$Sheets;") (List.mem_of_getElem? (i := 1) rfl)
  have hiX2 : ∀ w ∈ wsX20, w ∈ wsX4_get := by decide +kernel
  have k229 : (Cond.fieldLinkNest "WovenHistory" 229 "WovenHistory$Sheets" "numbers" "[[J" "WovenHistory").before _ s = true := va_Nw.use (A := ([.ref (h 0), .int s1, .int i1] : List Value).toArray) rfl (hN.1 ("WovenHistory", 229, "WovenHistory$Sheets", "numbers", "[[J") (List.mem_of_getElem? (i := 7) rfl))
  have hl := lv_entry ([.ref (h 0), .int s1, .int i1]) (n := 4) (Nat.le_of_ble_eq_true rfl)
  rw [lg_entry_eq]
  generalize (lg_sl ([.ref (h 0), .int s1, .int i1]) ++ List.replicate (4 - (lg_sl ([.ref (h 0), .int s1, .int i1])).length) Slot.unset).toArray = ls at hl ⊢
  have hl : lv_has ls 4 [(0, .ref (h 0)), (1, .int s1), (2, .int i1)] := hl
  refine lv_aload_n hx hb dX4_get_0 rfl (lv_at hl 0 rfl) ?_
  refine va_get (D := gD G) (ci := 4) (v := .ref (h 70)) (C := RX4) (T := TX4) (N := 9) hx hb hts hiX4 hown hK hP 0 rfl rfl 5 (by decide) k37 (fun _ h9 => h9) rfl dX4_get_1 ?_
  refine lv_iload_n hx hb dX4_get_4 rfl (lv_at hl 1 rfl) ?_
  refine lv_iload_n hx hb dX4_get_5 rfl (lv_at hl 2 rfl) ?_
  refine lv_iconst (v := nI 1) hx hb dX4_get_6 (by decide) ?_
  refine cRi (w := sv G (fun k => h (70 + k)) z jj) (As := [.int s1, .int i1, .int (nI 1)]) (rest := []) ⟨hx, hb, hml, hown, hts⟩ (mt_X2_findWrong l G (fun k => h (70 + k)) z jj s1 i1 (nI 1) (by first | assumption | omega)) (cwV 3 hts gX4_get_X2_findWrong rfl rfl rfl (by decide +kernel) ⟨Nat.le_of_ble_eq_true rfl, Nat.le_of_ble_eq_true rfl⟩) hK hN (hP.sub [47, 48, 49, 50, 51, 52, 53] rfl) 0 2 rfl rfl rfl hl.1 rfl (Nat.le_of_ble_eq_true rfl) ⟨Nat.zero_le _, Nat.zero_le _⟩ dX4_get_7 (fun r7 hw7 => ?_)
  rcases hw7 with ⟨rfl, js7, ji7, nn7, q7, hjs7, rfl, hq7, eq7, rfl, enn7, hs7⟩ | ⟨rfl, hnu7⟩ | ⟨rfl, js7, hjs7, ejs7, eq7⟩ | ⟨rfl, js7, q7, hjs7, ejs7, hq7, eq7, hpl7⟩
  · skip
    refine lv_istore_n (lv' := [(3, .int (0 : Int32)), (0, .ref (h 0)), (1, .int (nI js7)), (2, .int (nI ji7))]) hx hb dX4_get_10 rfl hl (by decide) rfl (fun ls hl => ?_)
    refine lv_iload_n hx hb dX4_get_11 rfl (lv_at hl 0 rfl) ?_
    refine lv_if_eq (tgt := 20) hx hb dX4_get_12 (by decide) (fun _ => ?_) (fun c9 => absurd (by decide) c9)
    have hnn : 1 = nn7 := (nI_eq (a := 1) (b := nn7) (by omega) (by omega)).mp enn7
    rcases (show js7 = 0 ∨ js7 = 1 ∨ js7 = 2 ∨ js7 = 3 by omega) with rfl | rfl | rfl | rfl
    · skip
      refine lv_aload_n hx hb dX4_get_20 rfl (lv_at hl 1 rfl) ?_
      refine va_get (D := gD G) (ci := 4) (v := .ref (h 70)) (C := RX4) (T := TX4) (N := 9) hx hb hts hiX4 hown hK hP 0 rfl rfl 5 (by decide) k37 (fun _ h9 => h9) rfl dX4_get_21 ?_
      refine va_getN (D := gD G) (ci := 2) (v := .ref (h 71)) (C := RX2) (T := TX2) (N := 2) hx hb hts hiX2 hown hK hP 47 rfl rfl 0 (by decide) k229 (fun _ h9 => h9) rfl dX4_get_24 ?_
      refine lv_iload_n hx hb dX4_get_27 rfl (lv_at hl 2 rfl) ?_
      refine aaldJ (f := fun i => some (h (73 + i))) (n := 4) (k := 0) (b := h 73) hx hb hK hP 48 rfl rfl (by decide) rfl dX4_get_28 ?_
      refine lv_iload_n hx hb dX4_get_29 rfl (lv_at hl 3 rfl) ?_
      refine laldN (f := jj 0) (n := 40) (k := ji7) hx hb hK hP 50 rfl rfl (by omega) dX4_get_30 ?_
      exact W.lret (v := (jj 0) ji7) hx hb hr (fun t ht hW => ⟨(jj 0) ji7, rfl, by first | rfl | trivial | omega | assumption, ht⟩) (fun _ h9 => by cases h9) dX4_get_31
    · skip
      refine lv_aload_n hx hb dX4_get_20 rfl (lv_at hl 1 rfl) ?_
      refine va_get (D := gD G) (ci := 4) (v := .ref (h 70)) (C := RX4) (T := TX4) (N := 9) hx hb hts hiX4 hown hK hP 0 rfl rfl 5 (by decide) k37 (fun _ h9 => h9) rfl dX4_get_21 ?_
      refine va_getN (D := gD G) (ci := 2) (v := .ref (h 71)) (C := RX2) (T := TX2) (N := 2) hx hb hts hiX2 hown hK hP 47 rfl rfl 0 (by decide) k229 (fun _ h9 => h9) rfl dX4_get_24 ?_
      refine lv_iload_n hx hb dX4_get_27 rfl (lv_at hl 2 rfl) ?_
      refine aaldJ (f := fun i => some (h (73 + i))) (n := 4) (k := 1) (b := h 74) hx hb hK hP 48 rfl rfl (by decide) rfl dX4_get_28 ?_
      refine lv_iload_n hx hb dX4_get_29 rfl (lv_at hl 3 rfl) ?_
      refine laldN (f := jj 1) (n := 40) (k := ji7) hx hb hK hP 51 rfl rfl (by omega) dX4_get_30 ?_
      exact W.lret (v := (jj 1) ji7) hx hb hr (fun t ht hW => ⟨(jj 1) ji7, rfl, by first | rfl | trivial | omega | assumption, ht⟩) (fun _ h9 => by cases h9) dX4_get_31
    · skip
      refine lv_aload_n hx hb dX4_get_20 rfl (lv_at hl 1 rfl) ?_
      refine va_get (D := gD G) (ci := 4) (v := .ref (h 70)) (C := RX4) (T := TX4) (N := 9) hx hb hts hiX4 hown hK hP 0 rfl rfl 5 (by decide) k37 (fun _ h9 => h9) rfl dX4_get_21 ?_
      refine va_getN (D := gD G) (ci := 2) (v := .ref (h 71)) (C := RX2) (T := TX2) (N := 2) hx hb hts hiX2 hown hK hP 47 rfl rfl 0 (by decide) k229 (fun _ h9 => h9) rfl dX4_get_24 ?_
      refine lv_iload_n hx hb dX4_get_27 rfl (lv_at hl 2 rfl) ?_
      refine aaldJ (f := fun i => some (h (73 + i))) (n := 4) (k := 2) (b := h 75) hx hb hK hP 48 rfl rfl (by decide) rfl dX4_get_28 ?_
      refine lv_iload_n hx hb dX4_get_29 rfl (lv_at hl 3 rfl) ?_
      refine laldN (f := jj 2) (n := 40) (k := ji7) hx hb hK hP 52 rfl rfl (by omega) dX4_get_30 ?_
      exact W.lret (v := (jj 2) ji7) hx hb hr (fun t ht hW => ⟨(jj 2) ji7, rfl, by first | rfl | trivial | omega | assumption, ht⟩) (fun _ h9 => by cases h9) dX4_get_31
    · skip
      refine lv_aload_n hx hb dX4_get_20 rfl (lv_at hl 1 rfl) ?_
      refine va_get (D := gD G) (ci := 4) (v := .ref (h 70)) (C := RX4) (T := TX4) (N := 9) hx hb hts hiX4 hown hK hP 0 rfl rfl 5 (by decide) k37 (fun _ h9 => h9) rfl dX4_get_21 ?_
      refine va_getN (D := gD G) (ci := 2) (v := .ref (h 71)) (C := RX2) (T := TX2) (N := 2) hx hb hts hiX2 hown hK hP 47 rfl rfl 0 (by decide) k229 (fun _ h9 => h9) rfl dX4_get_24 ?_
      refine lv_iload_n hx hb dX4_get_27 rfl (lv_at hl 2 rfl) ?_
      refine aaldJ (f := fun i => some (h (73 + i))) (n := 4) (k := 3) (b := h 76) hx hb hK hP 48 rfl rfl (by decide) rfl dX4_get_28 ?_
      refine lv_iload_n hx hb dX4_get_29 rfl (lv_at hl 3 rfl) ?_
      refine laldN (f := jj 3) (n := 40) (k := ji7) hx hb hK hP 53 rfl rfl (by omega) dX4_get_30 ?_
      exact W.lret (v := (jj 3) ji7) hx hb hr (fun t ht hW => ⟨(jj 3) ji7, rfl, by first | rfl | trivial | omega | assumption, ht⟩) (fun _ h9 => by cases h9) dX4_get_31
  · skip
    refine lv_istore_n (lv' := [(3, .int (-1000000001 : Int32)), (0, .ref (h 0)), (1, .int s1), (2, .int i1)]) hx hb dX4_get_10 rfl hl (by decide) rfl (fun ls hl => ?_)
    refine lv_iload_n hx hb dX4_get_11 rfl (lv_at hl 0 rfl) ?_
    refine lv_if_eq (tgt := 20) hx hb dX4_get_12 (by decide) (fun c9 => absurd c9 (by decide)) (fun _ => ?_)
    refine lv_iload_n hx hb dX4_get_15 rfl (lv_at hl 0 rfl) ?_
    refine lv_i2l (v := (-1000000001 : Int32).toInt64) hx hb dX4_get_16 rfl ?_
    refine lv_goto (tgt := 31) hx hb dX4_get_17 (by decide) ?_
    exact W.lret (v := (-1000000001 : Int32).toInt64) hx hb hr (fun t ht hW => ⟨(-1000000001 : Int32).toInt64, rfl, by first | rfl | trivial | omega | assumption, ht⟩) (fun _ h9 => by cases h9) dX4_get_31
  · skip
    refine lv_istore_n (lv' := [(3, .int (-1000000011 : Int32)), (0, .ref (h 0)), (1, .int s1), (2, .int i1)]) hx hb dX4_get_10 rfl hl (by decide) rfl (fun ls hl => ?_)
    refine lv_iload_n hx hb dX4_get_11 rfl (lv_at hl 0 rfl) ?_
    refine lv_if_eq (tgt := 20) hx hb dX4_get_12 (by decide) (fun c9 => absurd c9 (by decide)) (fun _ => ?_)
    refine lv_iload_n hx hb dX4_get_15 rfl (lv_at hl 0 rfl) ?_
    refine lv_i2l (v := (-1000000011 : Int32).toInt64) hx hb dX4_get_16 rfl ?_
    refine lv_goto (tgt := 31) hx hb dX4_get_17 (by decide) ?_
    exact W.lret (v := (-1000000011 : Int32).toInt64) hx hb hr (fun t ht hW => ⟨(-1000000011 : Int32).toInt64, rfl, by first | rfl | trivial | omega | assumption, ht⟩) (fun _ h9 => by cases h9) dX4_get_31
  · skip
    refine lv_istore_n (lv' := [(3, .int (-1000000012 : Int32)), (0, .ref (h 0)), (1, .int s1), (2, .int i1)]) hx hb dX4_get_10 rfl hl (by decide) rfl (fun ls hl => ?_)
    refine lv_iload_n hx hb dX4_get_11 rfl (lv_at hl 0 rfl) ?_
    refine lv_if_eq (tgt := 20) hx hb dX4_get_12 (by decide) (fun c9 => absurd c9 (by decide)) (fun _ => ?_)
    refine lv_iload_n hx hb dX4_get_15 rfl (lv_at hl 0 rfl) ?_
    refine lv_i2l (v := (-1000000012 : Int32).toInt64) hx hb dX4_get_16 rfl ?_
    refine lv_goto (tgt := 31) hx hb dX4_get_17 (by decide) ?_
    exact W.lret (v := (-1000000012 : Int32).toInt64) hx hb hr (fun t ht hW => ⟨(-1000000012 : Int32).toInt64, rfl, by first | rfl | trivial | omega | assumption, ht⟩) (fun _ h9 => by cases h9) dX4_get_31
set_option maxHeartbeats 1000000 in
set_option maxRecDepth 100000 in
theorem mt_X4_isFilm (l : Launch) (G : gG) (h : Nat → Nat) (x : oS) (wn : oS) (wa : oS) (w0 : oS) (w1 : oS) (rd : oS) (wr : oS) (z : oS) (jj : Nat → Nat → Int64) (lt : Int64) (nv : Nat) (nl : Nat) (a : Int32) (s1 : Int32) (i1 : Int32) (n1 : Int32) (hnv : wn.1 0 = nI nv) (hnl : wn.1 5 = nI nl) (hnv24 : nv ≤ 24) (hnl120 : nl ≤ 120) (hsz : ∀ j, j < 4 → z.2 1 j = -1 ∨ ∃ q, q ≤ 40 ∧ z.2 1 j = nI q) : Met l yX4_isFilm wsX4_isFilm ({ frames := 3, cells := 0, slots := 0, locals := 67 }) (preR G (xw G h x wn wa w0 w1 rd wr z jj lt) [.ref (h 0), .int a, .int s1, .int i1, .int n1]) (vp_Si (fun r : Int32 => True)) 0 0 (fun _ => False) := by
  refine Met.ofW (cc := cX4_isFilm) (maxL := 8) (ret := (some .int)) (by decide) rfl ?_
  intro p e s m args below meth c s₁ B hml hv
  obtain ⟨ha, hP, hK, hN⟩ := hv
  subst ha
  have hx := B.exec
  have hb := B.bytes
  have hr := B.returns
  have hts := atoms_spec (ws := wsX4_isFilm) B.pre
  have hown : s.vm.findClass RX4 = some m.cls := findClass_of_methodNamed B.named
  have hlocks := B.notSynchronized
  have hiX4 : ∀ w ∈ wsX40, w ∈ wsX4_isFilm := by decide +kernel
  have k10 := hts (.fieldLink RX4 10 "WovenHistory" "now" "LWovenHistory$Weave;") (List.mem_of_getElem? (i := 1) rfl)
  have k37 := hts (.fieldLink RX4 37 "WovenHistory" "sheets" "LWovenHistory$Sheets;") (List.mem_of_getElem? (i := 2) rfl)
  have hiX3 : ∀ w ∈ wsX30, w ∈ wsX4_isFilm := by decide +kernel
  have k115 : (Cond.fieldLinkNest "WovenHistory" 115 "WovenHistory$Weave" "changes" "[I" "WovenHistory").before _ s = true := va_Nw.use (A := ([.ref (h 0), .int a, .int s1, .int i1, .int n1] : List Value).toArray) rfl (hN.1 ("WovenHistory", 115, "WovenHistory$Weave", "changes", "[I") (List.mem_of_getElem? (i := 1) rfl))
  have k85 : (Cond.fieldLinkNest "WovenHistory" 85 "WovenHistory$Weave" "lines" "I" "WovenHistory").before _ s = true := va_Nw.use (A := ([.ref (h 0), .int a, .int s1, .int i1, .int n1] : List Value).toArray) rfl (hN.1 ("WovenHistory", 85, "WovenHistory$Weave", "lines", "I") (List.mem_of_getElem? (i := 13) rfl))
  have hiX2 : ∀ w ∈ wsX20, w ∈ wsX4_isFilm := by decide +kernel
  have k229 : (Cond.fieldLinkNest "WovenHistory" 229 "WovenHistory$Sheets" "numbers" "[[J" "WovenHistory").before _ s = true := va_Nw.use (A := ([.ref (h 0), .int a, .int s1, .int i1, .int n1] : List Value).toArray) rfl (hN.1 ("WovenHistory", 229, "WovenHistory$Sheets", "numbers", "[[J") (List.mem_of_getElem? (i := 7) rfl))
  have k136 : (Cond.fieldLinkNest "WovenHistory" 136 "WovenHistory$Weave" "sign" "[I" "WovenHistory").before _ s = true := va_Nw.use (A := ([.ref (h 0), .int a, .int s1, .int i1, .int n1] : List Value).toArray) rfl (hN.1 ("WovenHistory", 136, "WovenHistory$Weave", "sign", "[I") (List.mem_of_getElem? (i := 4) rfl))
  have hl := lv_entry ([.ref (h 0), .int a, .int s1, .int i1, .int n1]) (n := 8) (Nat.le_of_ble_eq_true rfl)
  rw [lg_entry_eq]
  generalize (lg_sl ([.ref (h 0), .int a, .int s1, .int i1, .int n1]) ++ List.replicate (8 - (lg_sl ([.ref (h 0), .int a, .int s1, .int i1, .int n1])).length) Slot.unset).toArray = ls at hl ⊢
  have hl : lv_has ls 8 [(0, .ref (h 0)), (1, .int a), (2, .int s1), (3, .int i1), (4, .int n1)] := hl
  refine lv_aload_n hx hb dX4_isFilm_0 rfl (lv_at hl 0 rfl) ?_
  refine va_get (D := gD G) (ci := 4) (v := .ref (h 10)) (C := RX4) (T := TX4) (N := 9) hx hb hts hiX4 hown hK hP 0 rfl rfl 0 (by decide) k10 (fun _ h9 => h9) rfl dX4_isFilm_1 ?_
  refine lv_iload_n hx hb dX4_isFilm_4 rfl (lv_at hl 1 rfl) ?_
  refine cRi (w := wv G (fun k => h (10 + k)) wn) (As := [.int a]) (rest := []) ⟨hx, hb, hml, hown, hts⟩ (mt_X3_hasVersion l G (fun k => h (10 + k)) wn nv a (hnv) (by first | assumption | omega)) (cwV 1 hts gX4_isFilm_X3_hasVersion rfl rfl rfl (by decide +kernel) ⟨Nat.le_of_ble_eq_true rfl, Nat.le_of_ble_eq_true rfl⟩) hK hN (hP.sub [3, 4, 5, 6, 7, 8, 9, 10] rfl) 0 3 rfl rfl rfl hl.1 rfl (Nat.le_of_ble_eq_true rfl) ⟨Nat.zero_le _, Nat.zero_le _⟩ dX4_isFilm_5 (fun r5 hw5 => ?_)
  rcases hw5 with ⟨rfl, a1, ha1, rfl⟩ | ⟨rfl, hna1⟩
  · skip
    refine lv_if_eq (tgt := 22) hx hb dX4_isFilm_8 (by decide) (fun c9 => absurd c9 (by decide)) (fun _ => ?_)
    refine lv_aload_n hx hb dX4_isFilm_11 rfl (lv_at hl 0 rfl) ?_
    refine va_get (D := gD G) (ci := 4) (v := .ref (h 70)) (C := RX4) (T := TX4) (N := 9) hx hb hts hiX4 hown hK hP 0 rfl rfl 5 (by decide) k37 (fun _ h9 => h9) rfl dX4_isFilm_12 ?_
    refine lv_iload_n hx hb dX4_isFilm_15 rfl (lv_at hl 2 rfl) ?_
    refine cRi (w := sv G (fun k => h (70 + k)) z jj) (As := [.int s1]) (rest := []) ⟨hx, hb, hml, hown, hts⟩ (mt_X2_hasNumber l G (fun k => h (70 + k)) z jj s1) (cwV 1 hts gX4_isFilm_X2_hasNumber rfl rfl rfl (by decide +kernel) ⟨Nat.le_of_ble_eq_true rfl, Nat.le_of_ble_eq_true rfl⟩) hK hN (hP.sub [47, 48, 49, 50, 51, 52, 53] rfl) 0 2 rfl rfl rfl hl.1 rfl (Nat.le_of_ble_eq_true rfl) ⟨Nat.zero_le _, Nat.zero_le _⟩ dX4_isFilm_16 (fun r16 hw16 => ?_)
    rcases hw16 with ⟨rfl, j16, hj16, ej16⟩ | ⟨rfl, hn16⟩
    · skip
      refine lv_if_ne (tgt := 25) hx hb dX4_isFilm_19 (by decide) (fun _ => ?_) (fun c9 => absurd c9 (by decide))
      refine lv_iload hx hb dX4_isFilm_25 (lv_at hl 4 rfl) ?_
      refine lv_if_ge (tgt := 33) hx hb dX4_isFilm_27 (by decide) (fun c27 => ?_) (fun c27 => ?_)
      · skip
        refine lv_aload_n hx hb dX4_isFilm_33 rfl (lv_at hl 0 rfl) ?_
        refine va_get (D := gD G) (ci := 4) (v := .ref (h 70)) (C := RX4) (T := TX4) (N := 9) hx hb hts hiX4 hown hK hP 0 rfl rfl 5 (by decide) k37 (fun _ h9 => h9) rfl dX4_isFilm_34 ?_
        refine lv_iload_n hx hb dX4_isFilm_37 rfl (lv_at hl 2 rfl) ?_
        refine lv_iload_n hx hb dX4_isFilm_38 rfl (lv_at hl 3 rfl) ?_
        refine lv_iload hx hb dX4_isFilm_39 (lv_at hl 4 rfl) ?_
        refine cRi (w := sv G (fun k => h (70 + k)) z jj) (As := [.int s1, .int i1, .int n1]) (rest := []) ⟨hx, hb, hml, hown, hts⟩ (mt_X2_findWrong l G (fun k => h (70 + k)) z jj s1 i1 n1 (by first | assumption | omega)) (cwV 3 hts gX4_isFilm_X2_findWrong rfl rfl rfl (by decide +kernel) ⟨Nat.le_of_ble_eq_true rfl, Nat.le_of_ble_eq_true rfl⟩) hK hN (hP.sub [47, 48, 49, 50, 51, 52, 53] rfl) 0 2 rfl rfl rfl hl.1 rfl (Nat.le_of_ble_eq_true rfl) ⟨Nat.zero_le _, Nat.zero_le _⟩ dX4_isFilm_41 (fun r41 hw41 => ?_)
        rcases hw41 with ⟨rfl, js41, ji41, nn41, q41, hjs41, rfl, hq41, eq41, rfl, rfl, hs41⟩ | ⟨rfl, hnu41⟩ | ⟨rfl, js41, hjs41, ejs41, eq41⟩ | ⟨rfl, js41, q41, hjs41, ejs41, hq41, eq41, hpl41⟩
        · skip
          refine lv_istore (lv' := [(5, .int (0 : Int32)), (0, .ref (h 0)), (1, .int (nI a1)), (2, .int (nI js41)), (3, .int (nI ji41)), (4, .int (nI nn41))]) hx hb dX4_isFilm_44 hl (by decide) rfl (fun ls hl => ?_)
          refine lv_iload hx hb dX4_isFilm_46 (lv_at hl 0 rfl) ?_
          refine lv_if_eq (tgt := 54) hx hb dX4_isFilm_48 (by decide) (fun _ => ?_) (fun c9 => absurd (by decide) c9)
          refine lv_iload hx hb dX4_isFilm_54 (lv_at hl 5 rfl) ?_
          refine lv_aload_n hx hb dX4_isFilm_56 rfl (lv_at hl 1 rfl) ?_
          refine va_get (D := gD G) (ci := 4) (v := .ref (h 10)) (C := RX4) (T := TX4) (N := 9) hx hb hts hiX4 hown hK hP 0 rfl rfl 0 (by decide) k10 (fun _ h9 => h9) rfl dX4_isFilm_57 ?_
          refine lv_aload_n hx hb dX4_isFilm_60 rfl (lv_at hl 1 rfl) ?_
          refine va_get (D := gD G) (ci := 4) (v := .ref (h 10)) (C := RX4) (T := TX4) (N := 9) hx hb hts hiX4 hown hK hP 0 rfl rfl 0 (by decide) k10 (fun _ h9 => h9) rfl dX4_isFilm_61 ?_
          refine va_getN (D := gD G) (ci := 3) (v := .ref (h 14)) (C := RX3) (T := TX3) (N := 9) hx hb hts hiX3 hown hK hP 3 rfl rfl 4 (by decide) k115 (fun _ h9 => h9) rfl dX4_isFilm_64 ?_
          refine lv_iload_n hx hb dX4_isFilm_67 rfl (lv_at hl 2 rfl) ?_
          refine ialdN (f := wn.2 4) (n := 24) (k := a1) hx hb hK hP 7 rfl rfl (by omega) dX4_isFilm_68 ?_
          refine cRi (w := wv G (fun k => h (10 + k)) wn) (As := [.int ((wn.2 4) a1)]) (rest := [.int (nI nn41)]) ⟨hx, hb, hml, hown, hts⟩ (mt_X3_countStanding l G (fun k => h (10 + k)) wn nl ((wn.2 4) a1) (hnl) (by first | assumption | omega)) (cwV 1 hts gX4_isFilm_X3_countStanding rfl rfl rfl (by decide +kernel) ⟨Nat.le_of_ble_eq_true rfl, Nat.le_of_ble_eq_true rfl⟩) hK hN (hP.sub [3, 4, 5, 6, 7, 8, 9, 10] rfl) 0 3 rfl rfl rfl hl.1 rfl (Nat.le_of_ble_eq_true rfl) ⟨Nat.zero_le _, Nat.zero_le _⟩ dX4_isFilm_69 (fun r69 hw69 => ?_)
          obtain rfl := hw69
          have hc69 := cnt_le (sdb (wn.2 7) (wn.2 8) ((wn.2 4) a1)) nl
          refine lv_icmp_eq (tgt := 77) hx hb dX4_isFilm_72 (by decide) (fun c72 => ?_) (fun c72 => ?_)
          · skip
            have n72 : nn41 = (cnt (sdb (wn.2 7) (wn.2 8) ((wn.2 4) a1)) nl) := (nI_eq (a := nn41) (b := cnt (sdb (wn.2 7) (wn.2 8) ((wn.2 4) a1)) nl) (by omega) (by omega)).mp c72
            rcases (show js41 = 0 ∨ js41 = 1 ∨ js41 = 2 ∨ js41 = 3 by omega) with rfl | rfl | rfl | rfl
            · skip
              refine lv_iload_n hx hb dX4_isFilm_77 rfl (lv_at hl 4 rfl) ?_
              refine lv_istore (lv' := [(6, .int (nI ji41)), (5, .int (0 : Int32)), (0, .ref (h 0)), (1, .int (nI a1)), (2, .int (nI 0)), (3, .int (nI ji41)), (4, .int (nI nn41))]) hx hb dX4_isFilm_78 hl (by decide) rfl (fun ls hl => ?_)
              refine lv_iconst (v := nI 0) hx hb dX4_isFilm_80 (by decide) ?_
              refine lv_istore (lv' := [(7, .int (nI 0)), (6, .int (nI ji41)), (5, .int (0 : Int32)), (0, .ref (h 0)), (1, .int (nI a1)), (2, .int (nI 0)), (3, .int (nI ji41)), (4, .int (nI nn41))]) hx hb dX4_isFilm_81 hl (by decide) rfl (fun ls hl => ?_)
              have LP83 : ∀ (n83m : Nat), ∀ (k : Nat) (pp : Nat) (hk : k ≤ nl) (hp : pp = ji41 + cnt (sdb (wn.2 7) (wn.2 8) (wn.2 4 a1)) k), (nl - k < n83m) → ∀ (ls : Array Slot), lv_has ls 8 [(0, .ref (h 0)), (1, .int (nI a1)), (2, .int (nI 0)), (6, .int (nI pp)), (7, .int (nI k))] → W p l e (headSpec wsX4_isFilm ({ frames := 3, cells := 0, slots := 0, locals := 67 })).room s m ([.ref (h 0), .int (nI a1), .int (nI 0), .int (nI ji41), .int (nI nn41)] : List Value).toArray below meth c s.heap [] 0 0 (MQ below (vp_Si (fun r : Int32 => True)) ([.ref (h 0), .int (nI a1), .int (nI 0), .int (nI ji41), .int (nI nn41)] : List Value).toArray s 0 0 (fun _ => False)) (F0 m 83 ls []) := by
                intro n83m
                induction n83m with
                | zero => intro k pp hk hp hmu ls hl; exact absurd hmu (Nat.not_lt_zero _)
                | succ n83m ih83 =>
                  intro k pp hk hp hmu ls hl
                  refine lv_iload hx hb dX4_isFilm_83 (lv_at hl 4 rfl) ?_
                  refine lv_aload_n hx hb dX4_isFilm_85 rfl (lv_at hl 0 rfl) ?_
                  refine va_get (D := gD G) (ci := 4) (v := .ref (h 10)) (C := RX4) (T := TX4) (N := 9) hx hb hts hiX4 hown hK hP 0 rfl rfl 0 (by decide) k10 (fun _ h9 => h9) rfl dX4_isFilm_86 ?_
                  refine va_getN (D := gD G) (ci := 3) (v := .int (wn.1 5)) (C := RX3) (T := TX3) (N := 9) hx hb hts hiX3 hown hK hP 3 rfl rfl 5 (by decide) k85 (fun _ h9 => h9) rfl dX4_isFilm_89 ?_
                  refine topE hnl ?_
                  refine lv_icmp_ge (tgt := 158) hx hb dX4_isFilm_92 (by decide) (fun c92 => ?_) (fun c92 => ?_)
                  · skip
                    have n92 : nl ≤ k := (nI_leI (a := nl) (b := k) (by omega) (by omega)).mp c92
                    refine lv_iconst (v := nI 1) hx hb dX4_isFilm_158 (by decide) ?_
                    exact W.iret (v := nI 1) hx hb hr (fun t ht hW => ⟨nI 1, rfl, by first | rfl | trivial | omega | assumption, ht⟩) (fun _ h9 => by cases h9) dX4_isFilm_159
                  · skip
                    have n92 : ¬ (nl ≤ k) := fun q9 => c92 ((nI_leI (a := nl) (b := k) (by omega) (by omega)).mpr q9)
                    refine lv_aload_n hx hb dX4_isFilm_95 rfl (lv_at hl 0 rfl) ?_
                    refine va_get (D := gD G) (ci := 4) (v := .ref (h 10)) (C := RX4) (T := TX4) (N := 9) hx hb hts hiX4 hown hK hP 0 rfl rfl 0 (by decide) k10 (fun _ h9 => h9) rfl dX4_isFilm_96 ?_
                    refine lv_iload hx hb dX4_isFilm_99 (lv_at hl 4 rfl) ?_
                    refine lv_aload_n hx hb dX4_isFilm_101 rfl (lv_at hl 0 rfl) ?_
                    refine va_get (D := gD G) (ci := 4) (v := .ref (h 10)) (C := RX4) (T := TX4) (N := 9) hx hb hts hiX4 hown hK hP 0 rfl rfl 0 (by decide) k10 (fun _ h9 => h9) rfl dX4_isFilm_102 ?_
                    refine va_getN (D := gD G) (ci := 3) (v := .ref (h 14)) (C := RX3) (T := TX3) (N := 9) hx hb hts hiX3 hown hK hP 3 rfl rfl 4 (by decide) k115 (fun _ h9 => h9) rfl dX4_isFilm_105 ?_
                    refine lv_iload_n hx hb dX4_isFilm_108 rfl (lv_at hl 1 rfl) ?_
                    refine ialdN (f := wn.2 4) (n := 24) (k := a1) hx hb hK hP 7 rfl rfl (by omega) dX4_isFilm_109 ?_
                    refine cRi (w := wv G (fun k => h (10 + k)) wn) (As := [.int (nI k), .int ((wn.2 4) a1)]) (rest := []) ⟨hx, hb, hml, hown, hts⟩ (mt_X3_stands l G (fun k => h (10 + k)) wn k ((wn.2 4) a1) (by first | assumption | omega)) (cwV 2 hts gX4_isFilm_X3_stands rfl rfl rfl (by decide +kernel) ⟨Nat.le_of_ble_eq_true rfl, Nat.le_of_ble_eq_true rfl⟩) hK hN (hP.sub [3, 4, 5, 6, 7, 8, 9, 10] rfl) 0 3 rfl rfl rfl hl.1 rfl (Nat.le_of_ble_eq_true rfl) ⟨Nat.zero_le _, Nat.zero_le _⟩ dX4_isFilm_110 (fun r110 hw110 => ?_)
                    rcases hw110 with ⟨rfl, hy110⟩ | ⟨rfl, hn110⟩
                    · skip
                      refine lv_if_eq (tgt := 152) hx hb dX4_isFilm_113 (by decide) (fun c9 => absurd c9 (by decide)) (fun _ => ?_)
                      refine lv_aload_n hx hb dX4_isFilm_116 rfl (lv_at hl 0 rfl) ?_
                      refine va_get (D := gD G) (ci := 4) (v := .ref (h 70)) (C := RX4) (T := TX4) (N := 9) hx hb hts hiX4 hown hK hP 0 rfl rfl 5 (by decide) k37 (fun _ h9 => h9) rfl dX4_isFilm_117 ?_
                      refine va_getN (D := gD G) (ci := 2) (v := .ref (h 71)) (C := RX2) (T := TX2) (N := 2) hx hb hts hiX2 hown hK hP 47 rfl rfl 0 (by decide) k229 (fun _ h9 => h9) rfl dX4_isFilm_120 ?_
                      refine lv_iload_n hx hb dX4_isFilm_123 rfl (lv_at hl 2 rfl) ?_
                      refine aaldJ (f := fun i => some (h (73 + i))) (n := 4) (k := 0) (b := h 73) hx hb hK hP 48 rfl rfl (by decide) rfl dX4_isFilm_124 ?_
                      refine lv_iload hx hb dX4_isFilm_125 (lv_at hl 3 rfl) ?_
                      refine laldN (f := jj 0) (n := 40) (k := pp) hx hb hK hP 50 rfl rfl (by omega) dX4_isFilm_127 ?_
                      refine lv_ldc2 (v := 255) hx hb hown (hts (.constantLong RX4 243 (255)) (List.mem_of_getElem? (i := 5) rfl)) dX4_isFilm_128 ?_
                      refine lv_land hx hb dX4_isFilm_131 ?_
                      refine lv_aload_n hx hb dX4_isFilm_132 rfl (lv_at hl 0 rfl) ?_
                      refine va_get (D := gD G) (ci := 4) (v := .ref (h 10)) (C := RX4) (T := TX4) (N := 9) hx hb hts hiX4 hown hK hP 0 rfl rfl 0 (by decide) k10 (fun _ h9 => h9) rfl dX4_isFilm_133 ?_
                      refine va_getN (D := gD G) (ci := 3) (v := .ref (h 16)) (C := RX3) (T := TX3) (N := 9) hx hb hts hiX3 hown hK hP 3 rfl rfl 6 (by decide) k136 (fun _ h9 => h9) rfl dX4_isFilm_136 ?_
                      refine lv_iload hx hb dX4_isFilm_139 (lv_at hl 4 rfl) ?_
                      refine ialdN (f := wn.2 6) (n := 120) (k := k) hx hb hK hP 8 rfl rfl (by omega) dX4_isFilm_141 ?_
                      refine lv_i2l (v := ((wn.2 6) k).toInt64) hx hb dX4_isFilm_142 rfl ?_
                      refine W.lcmp hx hb dX4_isFilm_143 ?_
                      refine lv_if_eq (tgt := 149) hx hb dX4_isFilm_144 (by decide) (fun c144 => ?_) (fun c144 => ?_)
                      · skip
                        have n144 : (((jj 0) pp) &&& 255) = (((wn.2 6) k).toInt64) := (lg_cmp_eq _ _).mp c144
                        refine lv_iinc (v := nI (pp + 1)) (lv' := [(6, .int (nI (pp + 1))), (0, .ref (h 0)), (1, .int (nI a1)), (2, .int (nI 0)), (7, .int (nI k))]) hx hb dX4_isFilm_149 hl (k := 3) rfl (nI_1 pp) (by decide) rfl (fun ls hl => ?_)
                        refine lv_iinc (v := nI (k + 1)) (lv' := [(7, .int (nI (k + 1))), (6, .int (nI (pp + 1))), (0, .ref (h 0)), (1, .int (nI a1)), (2, .int (nI 0))]) hx hb dX4_isFilm_152 hl (k := 4) rfl (nI_1 k) (by decide) rfl (fun ls hl => ?_)
                        refine lv_goto (tgt := 83) hx hb dX4_isFilm_155 (by decide) ?_
                        exact ih83 (k + 1) (pp + 1) (by first | assumption | omega) (by first | rfl | omega | (rw [cnt_t (by assumption)]; omega) | (rw [cnt_f (by assumption)]; omega)) (by omega) ls (lv_sub hl [2, 3, 4, 1, 0] rfl)
                      · skip
                        have n144 : ¬ ((((jj 0) pp) &&& 255) = (((wn.2 6) k).toInt64)) := fun q9 => c144 ((lg_cmp_eq _ _).mpr q9)
                        refine lv_iconst (v := nI 0) hx hb dX4_isFilm_147 (by decide) ?_
                        exact W.iret (v := nI 0) hx hb hr (fun t ht hW => ⟨nI 0, rfl, by first | rfl | trivial | omega | assumption, ht⟩) (fun _ h9 => by cases h9) dX4_isFilm_148
                    · skip
                      refine lv_if_eq (tgt := 152) hx hb dX4_isFilm_113 (by decide) (fun _ => ?_) (fun c9 => absurd (by decide) c9)
                      refine lv_iinc (v := nI (k + 1)) (lv' := [(7, .int (nI (k + 1))), (0, .ref (h 0)), (1, .int (nI a1)), (2, .int (nI 0)), (6, .int (nI pp))]) hx hb dX4_isFilm_152 hl (k := 4) rfl (nI_1 k) (by decide) rfl (fun ls hl => ?_)
                      refine lv_goto (tgt := 83) hx hb dX4_isFilm_155 (by decide) ?_
                      exact ih83 (k + 1) pp (by first | assumption | omega) (by first | rfl | omega | (rw [cnt_t (by assumption)]; omega) | (rw [cnt_f (by assumption)]; omega)) (by omega) ls (lv_sub hl [1, 2, 3, 4, 0] rfl)
              exact LP83 (nl - 0 + 1) 0 ji41 (by first | assumption | omega) (by first | rfl | omega | (rw [cnt_t (by assumption)]; omega) | (rw [cnt_f (by assumption)]; omega)) (Nat.lt_succ_self _) ls (lv_sub hl [3, 4, 5, 1, 0] rfl)
            · skip
              refine lv_iload_n hx hb dX4_isFilm_77 rfl (lv_at hl 4 rfl) ?_
              refine lv_istore (lv' := [(6, .int (nI ji41)), (5, .int (0 : Int32)), (0, .ref (h 0)), (1, .int (nI a1)), (2, .int (nI 1)), (3, .int (nI ji41)), (4, .int (nI nn41))]) hx hb dX4_isFilm_78 hl (by decide) rfl (fun ls hl => ?_)
              refine lv_iconst (v := nI 0) hx hb dX4_isFilm_80 (by decide) ?_
              refine lv_istore (lv' := [(7, .int (nI 0)), (6, .int (nI ji41)), (5, .int (0 : Int32)), (0, .ref (h 0)), (1, .int (nI a1)), (2, .int (nI 1)), (3, .int (nI ji41)), (4, .int (nI nn41))]) hx hb dX4_isFilm_81 hl (by decide) rfl (fun ls hl => ?_)
              have LP83 : ∀ (n83m : Nat), ∀ (k : Nat) (pp : Nat) (hk : k ≤ nl) (hp : pp = ji41 + cnt (sdb (wn.2 7) (wn.2 8) (wn.2 4 a1)) k), (nl - k < n83m) → ∀ (ls : Array Slot), lv_has ls 8 [(0, .ref (h 0)), (1, .int (nI a1)), (2, .int (nI 1)), (6, .int (nI pp)), (7, .int (nI k))] → W p l e (headSpec wsX4_isFilm ({ frames := 3, cells := 0, slots := 0, locals := 67 })).room s m ([.ref (h 0), .int (nI a1), .int (nI 1), .int (nI ji41), .int (nI nn41)] : List Value).toArray below meth c s.heap [] 0 0 (MQ below (vp_Si (fun r : Int32 => True)) ([.ref (h 0), .int (nI a1), .int (nI 1), .int (nI ji41), .int (nI nn41)] : List Value).toArray s 0 0 (fun _ => False)) (F0 m 83 ls []) := by
                intro n83m
                induction n83m with
                | zero => intro k pp hk hp hmu ls hl; exact absurd hmu (Nat.not_lt_zero _)
                | succ n83m ih83 =>
                  intro k pp hk hp hmu ls hl
                  refine lv_iload hx hb dX4_isFilm_83 (lv_at hl 4 rfl) ?_
                  refine lv_aload_n hx hb dX4_isFilm_85 rfl (lv_at hl 0 rfl) ?_
                  refine va_get (D := gD G) (ci := 4) (v := .ref (h 10)) (C := RX4) (T := TX4) (N := 9) hx hb hts hiX4 hown hK hP 0 rfl rfl 0 (by decide) k10 (fun _ h9 => h9) rfl dX4_isFilm_86 ?_
                  refine va_getN (D := gD G) (ci := 3) (v := .int (wn.1 5)) (C := RX3) (T := TX3) (N := 9) hx hb hts hiX3 hown hK hP 3 rfl rfl 5 (by decide) k85 (fun _ h9 => h9) rfl dX4_isFilm_89 ?_
                  refine topE hnl ?_
                  refine lv_icmp_ge (tgt := 158) hx hb dX4_isFilm_92 (by decide) (fun c92 => ?_) (fun c92 => ?_)
                  · skip
                    have n92 : nl ≤ k := (nI_leI (a := nl) (b := k) (by omega) (by omega)).mp c92
                    refine lv_iconst (v := nI 1) hx hb dX4_isFilm_158 (by decide) ?_
                    exact W.iret (v := nI 1) hx hb hr (fun t ht hW => ⟨nI 1, rfl, by first | rfl | trivial | omega | assumption, ht⟩) (fun _ h9 => by cases h9) dX4_isFilm_159
                  · skip
                    have n92 : ¬ (nl ≤ k) := fun q9 => c92 ((nI_leI (a := nl) (b := k) (by omega) (by omega)).mpr q9)
                    refine lv_aload_n hx hb dX4_isFilm_95 rfl (lv_at hl 0 rfl) ?_
                    refine va_get (D := gD G) (ci := 4) (v := .ref (h 10)) (C := RX4) (T := TX4) (N := 9) hx hb hts hiX4 hown hK hP 0 rfl rfl 0 (by decide) k10 (fun _ h9 => h9) rfl dX4_isFilm_96 ?_
                    refine lv_iload hx hb dX4_isFilm_99 (lv_at hl 4 rfl) ?_
                    refine lv_aload_n hx hb dX4_isFilm_101 rfl (lv_at hl 0 rfl) ?_
                    refine va_get (D := gD G) (ci := 4) (v := .ref (h 10)) (C := RX4) (T := TX4) (N := 9) hx hb hts hiX4 hown hK hP 0 rfl rfl 0 (by decide) k10 (fun _ h9 => h9) rfl dX4_isFilm_102 ?_
                    refine va_getN (D := gD G) (ci := 3) (v := .ref (h 14)) (C := RX3) (T := TX3) (N := 9) hx hb hts hiX3 hown hK hP 3 rfl rfl 4 (by decide) k115 (fun _ h9 => h9) rfl dX4_isFilm_105 ?_
                    refine lv_iload_n hx hb dX4_isFilm_108 rfl (lv_at hl 1 rfl) ?_
                    refine ialdN (f := wn.2 4) (n := 24) (k := a1) hx hb hK hP 7 rfl rfl (by omega) dX4_isFilm_109 ?_
                    refine cRi (w := wv G (fun k => h (10 + k)) wn) (As := [.int (nI k), .int ((wn.2 4) a1)]) (rest := []) ⟨hx, hb, hml, hown, hts⟩ (mt_X3_stands l G (fun k => h (10 + k)) wn k ((wn.2 4) a1) (by first | assumption | omega)) (cwV 2 hts gX4_isFilm_X3_stands rfl rfl rfl (by decide +kernel) ⟨Nat.le_of_ble_eq_true rfl, Nat.le_of_ble_eq_true rfl⟩) hK hN (hP.sub [3, 4, 5, 6, 7, 8, 9, 10] rfl) 0 3 rfl rfl rfl hl.1 rfl (Nat.le_of_ble_eq_true rfl) ⟨Nat.zero_le _, Nat.zero_le _⟩ dX4_isFilm_110 (fun r110 hw110 => ?_)
                    rcases hw110 with ⟨rfl, hy110⟩ | ⟨rfl, hn110⟩
                    · skip
                      refine lv_if_eq (tgt := 152) hx hb dX4_isFilm_113 (by decide) (fun c9 => absurd c9 (by decide)) (fun _ => ?_)
                      refine lv_aload_n hx hb dX4_isFilm_116 rfl (lv_at hl 0 rfl) ?_
                      refine va_get (D := gD G) (ci := 4) (v := .ref (h 70)) (C := RX4) (T := TX4) (N := 9) hx hb hts hiX4 hown hK hP 0 rfl rfl 5 (by decide) k37 (fun _ h9 => h9) rfl dX4_isFilm_117 ?_
                      refine va_getN (D := gD G) (ci := 2) (v := .ref (h 71)) (C := RX2) (T := TX2) (N := 2) hx hb hts hiX2 hown hK hP 47 rfl rfl 0 (by decide) k229 (fun _ h9 => h9) rfl dX4_isFilm_120 ?_
                      refine lv_iload_n hx hb dX4_isFilm_123 rfl (lv_at hl 2 rfl) ?_
                      refine aaldJ (f := fun i => some (h (73 + i))) (n := 4) (k := 1) (b := h 74) hx hb hK hP 48 rfl rfl (by decide) rfl dX4_isFilm_124 ?_
                      refine lv_iload hx hb dX4_isFilm_125 (lv_at hl 3 rfl) ?_
                      refine laldN (f := jj 1) (n := 40) (k := pp) hx hb hK hP 51 rfl rfl (by omega) dX4_isFilm_127 ?_
                      refine lv_ldc2 (v := 255) hx hb hown (hts (.constantLong RX4 243 (255)) (List.mem_of_getElem? (i := 5) rfl)) dX4_isFilm_128 ?_
                      refine lv_land hx hb dX4_isFilm_131 ?_
                      refine lv_aload_n hx hb dX4_isFilm_132 rfl (lv_at hl 0 rfl) ?_
                      refine va_get (D := gD G) (ci := 4) (v := .ref (h 10)) (C := RX4) (T := TX4) (N := 9) hx hb hts hiX4 hown hK hP 0 rfl rfl 0 (by decide) k10 (fun _ h9 => h9) rfl dX4_isFilm_133 ?_
                      refine va_getN (D := gD G) (ci := 3) (v := .ref (h 16)) (C := RX3) (T := TX3) (N := 9) hx hb hts hiX3 hown hK hP 3 rfl rfl 6 (by decide) k136 (fun _ h9 => h9) rfl dX4_isFilm_136 ?_
                      refine lv_iload hx hb dX4_isFilm_139 (lv_at hl 4 rfl) ?_
                      refine ialdN (f := wn.2 6) (n := 120) (k := k) hx hb hK hP 8 rfl rfl (by omega) dX4_isFilm_141 ?_
                      refine lv_i2l (v := ((wn.2 6) k).toInt64) hx hb dX4_isFilm_142 rfl ?_
                      refine W.lcmp hx hb dX4_isFilm_143 ?_
                      refine lv_if_eq (tgt := 149) hx hb dX4_isFilm_144 (by decide) (fun c144 => ?_) (fun c144 => ?_)
                      · skip
                        have n144 : (((jj 1) pp) &&& 255) = (((wn.2 6) k).toInt64) := (lg_cmp_eq _ _).mp c144
                        refine lv_iinc (v := nI (pp + 1)) (lv' := [(6, .int (nI (pp + 1))), (0, .ref (h 0)), (1, .int (nI a1)), (2, .int (nI 1)), (7, .int (nI k))]) hx hb dX4_isFilm_149 hl (k := 3) rfl (nI_1 pp) (by decide) rfl (fun ls hl => ?_)
                        refine lv_iinc (v := nI (k + 1)) (lv' := [(7, .int (nI (k + 1))), (6, .int (nI (pp + 1))), (0, .ref (h 0)), (1, .int (nI a1)), (2, .int (nI 1))]) hx hb dX4_isFilm_152 hl (k := 4) rfl (nI_1 k) (by decide) rfl (fun ls hl => ?_)
                        refine lv_goto (tgt := 83) hx hb dX4_isFilm_155 (by decide) ?_
                        exact ih83 (k + 1) (pp + 1) (by first | assumption | omega) (by first | rfl | omega | (rw [cnt_t (by assumption)]; omega) | (rw [cnt_f (by assumption)]; omega)) (by omega) ls (lv_sub hl [2, 3, 4, 1, 0] rfl)
                      · skip
                        have n144 : ¬ ((((jj 1) pp) &&& 255) = (((wn.2 6) k).toInt64)) := fun q9 => c144 ((lg_cmp_eq _ _).mpr q9)
                        refine lv_iconst (v := nI 0) hx hb dX4_isFilm_147 (by decide) ?_
                        exact W.iret (v := nI 0) hx hb hr (fun t ht hW => ⟨nI 0, rfl, by first | rfl | trivial | omega | assumption, ht⟩) (fun _ h9 => by cases h9) dX4_isFilm_148
                    · skip
                      refine lv_if_eq (tgt := 152) hx hb dX4_isFilm_113 (by decide) (fun _ => ?_) (fun c9 => absurd (by decide) c9)
                      refine lv_iinc (v := nI (k + 1)) (lv' := [(7, .int (nI (k + 1))), (0, .ref (h 0)), (1, .int (nI a1)), (2, .int (nI 1)), (6, .int (nI pp))]) hx hb dX4_isFilm_152 hl (k := 4) rfl (nI_1 k) (by decide) rfl (fun ls hl => ?_)
                      refine lv_goto (tgt := 83) hx hb dX4_isFilm_155 (by decide) ?_
                      exact ih83 (k + 1) pp (by first | assumption | omega) (by first | rfl | omega | (rw [cnt_t (by assumption)]; omega) | (rw [cnt_f (by assumption)]; omega)) (by omega) ls (lv_sub hl [1, 2, 3, 4, 0] rfl)
              exact LP83 (nl - 0 + 1) 0 ji41 (by first | assumption | omega) (by first | rfl | omega | (rw [cnt_t (by assumption)]; omega) | (rw [cnt_f (by assumption)]; omega)) (Nat.lt_succ_self _) ls (lv_sub hl [3, 4, 5, 1, 0] rfl)
            · skip
              refine lv_iload_n hx hb dX4_isFilm_77 rfl (lv_at hl 4 rfl) ?_
              refine lv_istore (lv' := [(6, .int (nI ji41)), (5, .int (0 : Int32)), (0, .ref (h 0)), (1, .int (nI a1)), (2, .int (nI 2)), (3, .int (nI ji41)), (4, .int (nI nn41))]) hx hb dX4_isFilm_78 hl (by decide) rfl (fun ls hl => ?_)
              refine lv_iconst (v := nI 0) hx hb dX4_isFilm_80 (by decide) ?_
              refine lv_istore (lv' := [(7, .int (nI 0)), (6, .int (nI ji41)), (5, .int (0 : Int32)), (0, .ref (h 0)), (1, .int (nI a1)), (2, .int (nI 2)), (3, .int (nI ji41)), (4, .int (nI nn41))]) hx hb dX4_isFilm_81 hl (by decide) rfl (fun ls hl => ?_)
              have LP83 : ∀ (n83m : Nat), ∀ (k : Nat) (pp : Nat) (hk : k ≤ nl) (hp : pp = ji41 + cnt (sdb (wn.2 7) (wn.2 8) (wn.2 4 a1)) k), (nl - k < n83m) → ∀ (ls : Array Slot), lv_has ls 8 [(0, .ref (h 0)), (1, .int (nI a1)), (2, .int (nI 2)), (6, .int (nI pp)), (7, .int (nI k))] → W p l e (headSpec wsX4_isFilm ({ frames := 3, cells := 0, slots := 0, locals := 67 })).room s m ([.ref (h 0), .int (nI a1), .int (nI 2), .int (nI ji41), .int (nI nn41)] : List Value).toArray below meth c s.heap [] 0 0 (MQ below (vp_Si (fun r : Int32 => True)) ([.ref (h 0), .int (nI a1), .int (nI 2), .int (nI ji41), .int (nI nn41)] : List Value).toArray s 0 0 (fun _ => False)) (F0 m 83 ls []) := by
                intro n83m
                induction n83m with
                | zero => intro k pp hk hp hmu ls hl; exact absurd hmu (Nat.not_lt_zero _)
                | succ n83m ih83 =>
                  intro k pp hk hp hmu ls hl
                  refine lv_iload hx hb dX4_isFilm_83 (lv_at hl 4 rfl) ?_
                  refine lv_aload_n hx hb dX4_isFilm_85 rfl (lv_at hl 0 rfl) ?_
                  refine va_get (D := gD G) (ci := 4) (v := .ref (h 10)) (C := RX4) (T := TX4) (N := 9) hx hb hts hiX4 hown hK hP 0 rfl rfl 0 (by decide) k10 (fun _ h9 => h9) rfl dX4_isFilm_86 ?_
                  refine va_getN (D := gD G) (ci := 3) (v := .int (wn.1 5)) (C := RX3) (T := TX3) (N := 9) hx hb hts hiX3 hown hK hP 3 rfl rfl 5 (by decide) k85 (fun _ h9 => h9) rfl dX4_isFilm_89 ?_
                  refine topE hnl ?_
                  refine lv_icmp_ge (tgt := 158) hx hb dX4_isFilm_92 (by decide) (fun c92 => ?_) (fun c92 => ?_)
                  · skip
                    have n92 : nl ≤ k := (nI_leI (a := nl) (b := k) (by omega) (by omega)).mp c92
                    refine lv_iconst (v := nI 1) hx hb dX4_isFilm_158 (by decide) ?_
                    exact W.iret (v := nI 1) hx hb hr (fun t ht hW => ⟨nI 1, rfl, by first | rfl | trivial | omega | assumption, ht⟩) (fun _ h9 => by cases h9) dX4_isFilm_159
                  · skip
                    have n92 : ¬ (nl ≤ k) := fun q9 => c92 ((nI_leI (a := nl) (b := k) (by omega) (by omega)).mpr q9)
                    refine lv_aload_n hx hb dX4_isFilm_95 rfl (lv_at hl 0 rfl) ?_
                    refine va_get (D := gD G) (ci := 4) (v := .ref (h 10)) (C := RX4) (T := TX4) (N := 9) hx hb hts hiX4 hown hK hP 0 rfl rfl 0 (by decide) k10 (fun _ h9 => h9) rfl dX4_isFilm_96 ?_
                    refine lv_iload hx hb dX4_isFilm_99 (lv_at hl 4 rfl) ?_
                    refine lv_aload_n hx hb dX4_isFilm_101 rfl (lv_at hl 0 rfl) ?_
                    refine va_get (D := gD G) (ci := 4) (v := .ref (h 10)) (C := RX4) (T := TX4) (N := 9) hx hb hts hiX4 hown hK hP 0 rfl rfl 0 (by decide) k10 (fun _ h9 => h9) rfl dX4_isFilm_102 ?_
                    refine va_getN (D := gD G) (ci := 3) (v := .ref (h 14)) (C := RX3) (T := TX3) (N := 9) hx hb hts hiX3 hown hK hP 3 rfl rfl 4 (by decide) k115 (fun _ h9 => h9) rfl dX4_isFilm_105 ?_
                    refine lv_iload_n hx hb dX4_isFilm_108 rfl (lv_at hl 1 rfl) ?_
                    refine ialdN (f := wn.2 4) (n := 24) (k := a1) hx hb hK hP 7 rfl rfl (by omega) dX4_isFilm_109 ?_
                    refine cRi (w := wv G (fun k => h (10 + k)) wn) (As := [.int (nI k), .int ((wn.2 4) a1)]) (rest := []) ⟨hx, hb, hml, hown, hts⟩ (mt_X3_stands l G (fun k => h (10 + k)) wn k ((wn.2 4) a1) (by first | assumption | omega)) (cwV 2 hts gX4_isFilm_X3_stands rfl rfl rfl (by decide +kernel) ⟨Nat.le_of_ble_eq_true rfl, Nat.le_of_ble_eq_true rfl⟩) hK hN (hP.sub [3, 4, 5, 6, 7, 8, 9, 10] rfl) 0 3 rfl rfl rfl hl.1 rfl (Nat.le_of_ble_eq_true rfl) ⟨Nat.zero_le _, Nat.zero_le _⟩ dX4_isFilm_110 (fun r110 hw110 => ?_)
                    rcases hw110 with ⟨rfl, hy110⟩ | ⟨rfl, hn110⟩
                    · skip
                      refine lv_if_eq (tgt := 152) hx hb dX4_isFilm_113 (by decide) (fun c9 => absurd c9 (by decide)) (fun _ => ?_)
                      refine lv_aload_n hx hb dX4_isFilm_116 rfl (lv_at hl 0 rfl) ?_
                      refine va_get (D := gD G) (ci := 4) (v := .ref (h 70)) (C := RX4) (T := TX4) (N := 9) hx hb hts hiX4 hown hK hP 0 rfl rfl 5 (by decide) k37 (fun _ h9 => h9) rfl dX4_isFilm_117 ?_
                      refine va_getN (D := gD G) (ci := 2) (v := .ref (h 71)) (C := RX2) (T := TX2) (N := 2) hx hb hts hiX2 hown hK hP 47 rfl rfl 0 (by decide) k229 (fun _ h9 => h9) rfl dX4_isFilm_120 ?_
                      refine lv_iload_n hx hb dX4_isFilm_123 rfl (lv_at hl 2 rfl) ?_
                      refine aaldJ (f := fun i => some (h (73 + i))) (n := 4) (k := 2) (b := h 75) hx hb hK hP 48 rfl rfl (by decide) rfl dX4_isFilm_124 ?_
                      refine lv_iload hx hb dX4_isFilm_125 (lv_at hl 3 rfl) ?_
                      refine laldN (f := jj 2) (n := 40) (k := pp) hx hb hK hP 52 rfl rfl (by omega) dX4_isFilm_127 ?_
                      refine lv_ldc2 (v := 255) hx hb hown (hts (.constantLong RX4 243 (255)) (List.mem_of_getElem? (i := 5) rfl)) dX4_isFilm_128 ?_
                      refine lv_land hx hb dX4_isFilm_131 ?_
                      refine lv_aload_n hx hb dX4_isFilm_132 rfl (lv_at hl 0 rfl) ?_
                      refine va_get (D := gD G) (ci := 4) (v := .ref (h 10)) (C := RX4) (T := TX4) (N := 9) hx hb hts hiX4 hown hK hP 0 rfl rfl 0 (by decide) k10 (fun _ h9 => h9) rfl dX4_isFilm_133 ?_
                      refine va_getN (D := gD G) (ci := 3) (v := .ref (h 16)) (C := RX3) (T := TX3) (N := 9) hx hb hts hiX3 hown hK hP 3 rfl rfl 6 (by decide) k136 (fun _ h9 => h9) rfl dX4_isFilm_136 ?_
                      refine lv_iload hx hb dX4_isFilm_139 (lv_at hl 4 rfl) ?_
                      refine ialdN (f := wn.2 6) (n := 120) (k := k) hx hb hK hP 8 rfl rfl (by omega) dX4_isFilm_141 ?_
                      refine lv_i2l (v := ((wn.2 6) k).toInt64) hx hb dX4_isFilm_142 rfl ?_
                      refine W.lcmp hx hb dX4_isFilm_143 ?_
                      refine lv_if_eq (tgt := 149) hx hb dX4_isFilm_144 (by decide) (fun c144 => ?_) (fun c144 => ?_)
                      · skip
                        have n144 : (((jj 2) pp) &&& 255) = (((wn.2 6) k).toInt64) := (lg_cmp_eq _ _).mp c144
                        refine lv_iinc (v := nI (pp + 1)) (lv' := [(6, .int (nI (pp + 1))), (0, .ref (h 0)), (1, .int (nI a1)), (2, .int (nI 2)), (7, .int (nI k))]) hx hb dX4_isFilm_149 hl (k := 3) rfl (nI_1 pp) (by decide) rfl (fun ls hl => ?_)
                        refine lv_iinc (v := nI (k + 1)) (lv' := [(7, .int (nI (k + 1))), (6, .int (nI (pp + 1))), (0, .ref (h 0)), (1, .int (nI a1)), (2, .int (nI 2))]) hx hb dX4_isFilm_152 hl (k := 4) rfl (nI_1 k) (by decide) rfl (fun ls hl => ?_)
                        refine lv_goto (tgt := 83) hx hb dX4_isFilm_155 (by decide) ?_
                        exact ih83 (k + 1) (pp + 1) (by first | assumption | omega) (by first | rfl | omega | (rw [cnt_t (by assumption)]; omega) | (rw [cnt_f (by assumption)]; omega)) (by omega) ls (lv_sub hl [2, 3, 4, 1, 0] rfl)
                      · skip
                        have n144 : ¬ ((((jj 2) pp) &&& 255) = (((wn.2 6) k).toInt64)) := fun q9 => c144 ((lg_cmp_eq _ _).mpr q9)
                        refine lv_iconst (v := nI 0) hx hb dX4_isFilm_147 (by decide) ?_
                        exact W.iret (v := nI 0) hx hb hr (fun t ht hW => ⟨nI 0, rfl, by first | rfl | trivial | omega | assumption, ht⟩) (fun _ h9 => by cases h9) dX4_isFilm_148
                    · skip
                      refine lv_if_eq (tgt := 152) hx hb dX4_isFilm_113 (by decide) (fun _ => ?_) (fun c9 => absurd (by decide) c9)
                      refine lv_iinc (v := nI (k + 1)) (lv' := [(7, .int (nI (k + 1))), (0, .ref (h 0)), (1, .int (nI a1)), (2, .int (nI 2)), (6, .int (nI pp))]) hx hb dX4_isFilm_152 hl (k := 4) rfl (nI_1 k) (by decide) rfl (fun ls hl => ?_)
                      refine lv_goto (tgt := 83) hx hb dX4_isFilm_155 (by decide) ?_
                      exact ih83 (k + 1) pp (by first | assumption | omega) (by first | rfl | omega | (rw [cnt_t (by assumption)]; omega) | (rw [cnt_f (by assumption)]; omega)) (by omega) ls (lv_sub hl [1, 2, 3, 4, 0] rfl)
              exact LP83 (nl - 0 + 1) 0 ji41 (by first | assumption | omega) (by first | rfl | omega | (rw [cnt_t (by assumption)]; omega) | (rw [cnt_f (by assumption)]; omega)) (Nat.lt_succ_self _) ls (lv_sub hl [3, 4, 5, 1, 0] rfl)
            · skip
              refine lv_iload_n hx hb dX4_isFilm_77 rfl (lv_at hl 4 rfl) ?_
              refine lv_istore (lv' := [(6, .int (nI ji41)), (5, .int (0 : Int32)), (0, .ref (h 0)), (1, .int (nI a1)), (2, .int (nI 3)), (3, .int (nI ji41)), (4, .int (nI nn41))]) hx hb dX4_isFilm_78 hl (by decide) rfl (fun ls hl => ?_)
              refine lv_iconst (v := nI 0) hx hb dX4_isFilm_80 (by decide) ?_
              refine lv_istore (lv' := [(7, .int (nI 0)), (6, .int (nI ji41)), (5, .int (0 : Int32)), (0, .ref (h 0)), (1, .int (nI a1)), (2, .int (nI 3)), (3, .int (nI ji41)), (4, .int (nI nn41))]) hx hb dX4_isFilm_81 hl (by decide) rfl (fun ls hl => ?_)
              have LP83 : ∀ (n83m : Nat), ∀ (k : Nat) (pp : Nat) (hk : k ≤ nl) (hp : pp = ji41 + cnt (sdb (wn.2 7) (wn.2 8) (wn.2 4 a1)) k), (nl - k < n83m) → ∀ (ls : Array Slot), lv_has ls 8 [(0, .ref (h 0)), (1, .int (nI a1)), (2, .int (nI 3)), (6, .int (nI pp)), (7, .int (nI k))] → W p l e (headSpec wsX4_isFilm ({ frames := 3, cells := 0, slots := 0, locals := 67 })).room s m ([.ref (h 0), .int (nI a1), .int (nI 3), .int (nI ji41), .int (nI nn41)] : List Value).toArray below meth c s.heap [] 0 0 (MQ below (vp_Si (fun r : Int32 => True)) ([.ref (h 0), .int (nI a1), .int (nI 3), .int (nI ji41), .int (nI nn41)] : List Value).toArray s 0 0 (fun _ => False)) (F0 m 83 ls []) := by
                intro n83m
                induction n83m with
                | zero => intro k pp hk hp hmu ls hl; exact absurd hmu (Nat.not_lt_zero _)
                | succ n83m ih83 =>
                  intro k pp hk hp hmu ls hl
                  refine lv_iload hx hb dX4_isFilm_83 (lv_at hl 4 rfl) ?_
                  refine lv_aload_n hx hb dX4_isFilm_85 rfl (lv_at hl 0 rfl) ?_
                  refine va_get (D := gD G) (ci := 4) (v := .ref (h 10)) (C := RX4) (T := TX4) (N := 9) hx hb hts hiX4 hown hK hP 0 rfl rfl 0 (by decide) k10 (fun _ h9 => h9) rfl dX4_isFilm_86 ?_
                  refine va_getN (D := gD G) (ci := 3) (v := .int (wn.1 5)) (C := RX3) (T := TX3) (N := 9) hx hb hts hiX3 hown hK hP 3 rfl rfl 5 (by decide) k85 (fun _ h9 => h9) rfl dX4_isFilm_89 ?_
                  refine topE hnl ?_
                  refine lv_icmp_ge (tgt := 158) hx hb dX4_isFilm_92 (by decide) (fun c92 => ?_) (fun c92 => ?_)
                  · skip
                    have n92 : nl ≤ k := (nI_leI (a := nl) (b := k) (by omega) (by omega)).mp c92
                    refine lv_iconst (v := nI 1) hx hb dX4_isFilm_158 (by decide) ?_
                    exact W.iret (v := nI 1) hx hb hr (fun t ht hW => ⟨nI 1, rfl, by first | rfl | trivial | omega | assumption, ht⟩) (fun _ h9 => by cases h9) dX4_isFilm_159
                  · skip
                    have n92 : ¬ (nl ≤ k) := fun q9 => c92 ((nI_leI (a := nl) (b := k) (by omega) (by omega)).mpr q9)
                    refine lv_aload_n hx hb dX4_isFilm_95 rfl (lv_at hl 0 rfl) ?_
                    refine va_get (D := gD G) (ci := 4) (v := .ref (h 10)) (C := RX4) (T := TX4) (N := 9) hx hb hts hiX4 hown hK hP 0 rfl rfl 0 (by decide) k10 (fun _ h9 => h9) rfl dX4_isFilm_96 ?_
                    refine lv_iload hx hb dX4_isFilm_99 (lv_at hl 4 rfl) ?_
                    refine lv_aload_n hx hb dX4_isFilm_101 rfl (lv_at hl 0 rfl) ?_
                    refine va_get (D := gD G) (ci := 4) (v := .ref (h 10)) (C := RX4) (T := TX4) (N := 9) hx hb hts hiX4 hown hK hP 0 rfl rfl 0 (by decide) k10 (fun _ h9 => h9) rfl dX4_isFilm_102 ?_
                    refine va_getN (D := gD G) (ci := 3) (v := .ref (h 14)) (C := RX3) (T := TX3) (N := 9) hx hb hts hiX3 hown hK hP 3 rfl rfl 4 (by decide) k115 (fun _ h9 => h9) rfl dX4_isFilm_105 ?_
                    refine lv_iload_n hx hb dX4_isFilm_108 rfl (lv_at hl 1 rfl) ?_
                    refine ialdN (f := wn.2 4) (n := 24) (k := a1) hx hb hK hP 7 rfl rfl (by omega) dX4_isFilm_109 ?_
                    refine cRi (w := wv G (fun k => h (10 + k)) wn) (As := [.int (nI k), .int ((wn.2 4) a1)]) (rest := []) ⟨hx, hb, hml, hown, hts⟩ (mt_X3_stands l G (fun k => h (10 + k)) wn k ((wn.2 4) a1) (by first | assumption | omega)) (cwV 2 hts gX4_isFilm_X3_stands rfl rfl rfl (by decide +kernel) ⟨Nat.le_of_ble_eq_true rfl, Nat.le_of_ble_eq_true rfl⟩) hK hN (hP.sub [3, 4, 5, 6, 7, 8, 9, 10] rfl) 0 3 rfl rfl rfl hl.1 rfl (Nat.le_of_ble_eq_true rfl) ⟨Nat.zero_le _, Nat.zero_le _⟩ dX4_isFilm_110 (fun r110 hw110 => ?_)
                    rcases hw110 with ⟨rfl, hy110⟩ | ⟨rfl, hn110⟩
                    · skip
                      refine lv_if_eq (tgt := 152) hx hb dX4_isFilm_113 (by decide) (fun c9 => absurd c9 (by decide)) (fun _ => ?_)
                      refine lv_aload_n hx hb dX4_isFilm_116 rfl (lv_at hl 0 rfl) ?_
                      refine va_get (D := gD G) (ci := 4) (v := .ref (h 70)) (C := RX4) (T := TX4) (N := 9) hx hb hts hiX4 hown hK hP 0 rfl rfl 5 (by decide) k37 (fun _ h9 => h9) rfl dX4_isFilm_117 ?_
                      refine va_getN (D := gD G) (ci := 2) (v := .ref (h 71)) (C := RX2) (T := TX2) (N := 2) hx hb hts hiX2 hown hK hP 47 rfl rfl 0 (by decide) k229 (fun _ h9 => h9) rfl dX4_isFilm_120 ?_
                      refine lv_iload_n hx hb dX4_isFilm_123 rfl (lv_at hl 2 rfl) ?_
                      refine aaldJ (f := fun i => some (h (73 + i))) (n := 4) (k := 3) (b := h 76) hx hb hK hP 48 rfl rfl (by decide) rfl dX4_isFilm_124 ?_
                      refine lv_iload hx hb dX4_isFilm_125 (lv_at hl 3 rfl) ?_
                      refine laldN (f := jj 3) (n := 40) (k := pp) hx hb hK hP 53 rfl rfl (by omega) dX4_isFilm_127 ?_
                      refine lv_ldc2 (v := 255) hx hb hown (hts (.constantLong RX4 243 (255)) (List.mem_of_getElem? (i := 5) rfl)) dX4_isFilm_128 ?_
                      refine lv_land hx hb dX4_isFilm_131 ?_
                      refine lv_aload_n hx hb dX4_isFilm_132 rfl (lv_at hl 0 rfl) ?_
                      refine va_get (D := gD G) (ci := 4) (v := .ref (h 10)) (C := RX4) (T := TX4) (N := 9) hx hb hts hiX4 hown hK hP 0 rfl rfl 0 (by decide) k10 (fun _ h9 => h9) rfl dX4_isFilm_133 ?_
                      refine va_getN (D := gD G) (ci := 3) (v := .ref (h 16)) (C := RX3) (T := TX3) (N := 9) hx hb hts hiX3 hown hK hP 3 rfl rfl 6 (by decide) k136 (fun _ h9 => h9) rfl dX4_isFilm_136 ?_
                      refine lv_iload hx hb dX4_isFilm_139 (lv_at hl 4 rfl) ?_
                      refine ialdN (f := wn.2 6) (n := 120) (k := k) hx hb hK hP 8 rfl rfl (by omega) dX4_isFilm_141 ?_
                      refine lv_i2l (v := ((wn.2 6) k).toInt64) hx hb dX4_isFilm_142 rfl ?_
                      refine W.lcmp hx hb dX4_isFilm_143 ?_
                      refine lv_if_eq (tgt := 149) hx hb dX4_isFilm_144 (by decide) (fun c144 => ?_) (fun c144 => ?_)
                      · skip
                        have n144 : (((jj 3) pp) &&& 255) = (((wn.2 6) k).toInt64) := (lg_cmp_eq _ _).mp c144
                        refine lv_iinc (v := nI (pp + 1)) (lv' := [(6, .int (nI (pp + 1))), (0, .ref (h 0)), (1, .int (nI a1)), (2, .int (nI 3)), (7, .int (nI k))]) hx hb dX4_isFilm_149 hl (k := 3) rfl (nI_1 pp) (by decide) rfl (fun ls hl => ?_)
                        refine lv_iinc (v := nI (k + 1)) (lv' := [(7, .int (nI (k + 1))), (6, .int (nI (pp + 1))), (0, .ref (h 0)), (1, .int (nI a1)), (2, .int (nI 3))]) hx hb dX4_isFilm_152 hl (k := 4) rfl (nI_1 k) (by decide) rfl (fun ls hl => ?_)
                        refine lv_goto (tgt := 83) hx hb dX4_isFilm_155 (by decide) ?_
                        exact ih83 (k + 1) (pp + 1) (by first | assumption | omega) (by first | rfl | omega | (rw [cnt_t (by assumption)]; omega) | (rw [cnt_f (by assumption)]; omega)) (by omega) ls (lv_sub hl [2, 3, 4, 1, 0] rfl)
                      · skip
                        have n144 : ¬ ((((jj 3) pp) &&& 255) = (((wn.2 6) k).toInt64)) := fun q9 => c144 ((lg_cmp_eq _ _).mpr q9)
                        refine lv_iconst (v := nI 0) hx hb dX4_isFilm_147 (by decide) ?_
                        exact W.iret (v := nI 0) hx hb hr (fun t ht hW => ⟨nI 0, rfl, by first | rfl | trivial | omega | assumption, ht⟩) (fun _ h9 => by cases h9) dX4_isFilm_148
                    · skip
                      refine lv_if_eq (tgt := 152) hx hb dX4_isFilm_113 (by decide) (fun _ => ?_) (fun c9 => absurd (by decide) c9)
                      refine lv_iinc (v := nI (k + 1)) (lv' := [(7, .int (nI (k + 1))), (0, .ref (h 0)), (1, .int (nI a1)), (2, .int (nI 3)), (6, .int (nI pp))]) hx hb dX4_isFilm_152 hl (k := 4) rfl (nI_1 k) (by decide) rfl (fun ls hl => ?_)
                      refine lv_goto (tgt := 83) hx hb dX4_isFilm_155 (by decide) ?_
                      exact ih83 (k + 1) pp (by first | assumption | omega) (by first | rfl | omega | (rw [cnt_t (by assumption)]; omega) | (rw [cnt_f (by assumption)]; omega)) (by omega) ls (lv_sub hl [1, 2, 3, 4, 0] rfl)
              exact LP83 (nl - 0 + 1) 0 ji41 (by first | assumption | omega) (by first | rfl | omega | (rw [cnt_t (by assumption)]; omega) | (rw [cnt_f (by assumption)]; omega)) (Nat.lt_succ_self _) ls (lv_sub hl [3, 4, 5, 1, 0] rfl)
          · skip
            have n72 : ¬ (nn41 = (cnt (sdb (wn.2 7) (wn.2 8) ((wn.2 4) a1)) nl)) := fun q9 => c72 ((nI_eq (a := nn41) (b := cnt (sdb (wn.2 7) (wn.2 8) ((wn.2 4) a1)) nl) (by omega) (by omega)).mpr q9)
            refine lv_iconst (v := nI 0) hx hb dX4_isFilm_75 (by decide) ?_
            exact W.iret (v := nI 0) hx hb hr (fun t ht hW => ⟨nI 0, rfl, by first | rfl | trivial | omega | assumption, ht⟩) (fun _ h9 => by cases h9) dX4_isFilm_76
        · skip
          refine lv_istore (lv' := [(5, .int (-1000000001 : Int32)), (0, .ref (h 0)), (1, .int (nI a1)), (2, .int s1), (3, .int i1), (4, .int n1)]) hx hb dX4_isFilm_44 hl (by decide) rfl (fun ls hl => ?_)
          refine lv_iload hx hb dX4_isFilm_46 (lv_at hl 0 rfl) ?_
          refine lv_if_eq (tgt := 54) hx hb dX4_isFilm_48 (by decide) (fun c9 => absurd c9 (by decide)) (fun _ => ?_)
          refine lv_iload hx hb dX4_isFilm_51 (lv_at hl 0 rfl) ?_
          exact W.iret (v := (-1000000001 : Int32)) hx hb hr (fun t ht hW => ⟨(-1000000001 : Int32), rfl, by first | rfl | trivial | omega | assumption, ht⟩) (fun _ h9 => by cases h9) dX4_isFilm_53
        · skip
          refine lv_istore (lv' := [(5, .int (-1000000011 : Int32)), (0, .ref (h 0)), (1, .int (nI a1)), (2, .int s1), (3, .int i1), (4, .int n1)]) hx hb dX4_isFilm_44 hl (by decide) rfl (fun ls hl => ?_)
          refine lv_iload hx hb dX4_isFilm_46 (lv_at hl 0 rfl) ?_
          refine lv_if_eq (tgt := 54) hx hb dX4_isFilm_48 (by decide) (fun c9 => absurd c9 (by decide)) (fun _ => ?_)
          refine lv_iload hx hb dX4_isFilm_51 (lv_at hl 0 rfl) ?_
          exact W.iret (v := (-1000000011 : Int32)) hx hb hr (fun t ht hW => ⟨(-1000000011 : Int32), rfl, by first | rfl | trivial | omega | assumption, ht⟩) (fun _ h9 => by cases h9) dX4_isFilm_53
        · skip
          refine lv_istore (lv' := [(5, .int (-1000000012 : Int32)), (0, .ref (h 0)), (1, .int (nI a1)), (2, .int s1), (3, .int i1), (4, .int n1)]) hx hb dX4_isFilm_44 hl (by decide) rfl (fun ls hl => ?_)
          refine lv_iload hx hb dX4_isFilm_46 (lv_at hl 0 rfl) ?_
          refine lv_if_eq (tgt := 54) hx hb dX4_isFilm_48 (by decide) (fun c9 => absurd c9 (by decide)) (fun _ => ?_)
          refine lv_iload hx hb dX4_isFilm_51 (lv_at hl 0 rfl) ?_
          exact W.iret (v := (-1000000012 : Int32)) hx hb hr (fun t ht hW => ⟨(-1000000012 : Int32), rfl, by first | rfl | trivial | omega | assumption, ht⟩) (fun _ h9 => by cases h9) dX4_isFilm_53
      · skip
        refine lv_ldc (v := (-1000000002 : Int32)) hx hb hown (hts (.constant RX4 56 (-1000000002)) (List.mem_of_getElem? (i := 4) rfl)) dX4_isFilm_30 ?_
        exact W.iret (v := (-1000000002 : Int32)) hx hb hr (fun t ht hW => ⟨(-1000000002 : Int32), rfl, by first | rfl | trivial | omega | assumption, ht⟩) (fun _ h9 => by cases h9) dX4_isFilm_32
    · skip
      refine lv_if_ne (tgt := 25) hx hb dX4_isFilm_19 (by decide) (fun c9 => absurd (by decide) c9) (fun _ => ?_)
      refine lv_ldc (v := (-1000000001 : Int32)) hx hb hown (hts (.constant RX4 110 (-1000000001)) (List.mem_of_getElem? (i := 3) rfl)) dX4_isFilm_22 ?_
      exact W.iret (v := (-1000000001 : Int32)) hx hb hr (fun t ht hW => ⟨(-1000000001 : Int32), rfl, by first | rfl | trivial | omega | assumption, ht⟩) (fun _ h9 => by cases h9) dX4_isFilm_24
  · skip
    refine lv_if_eq (tgt := 22) hx hb dX4_isFilm_8 (by decide) (fun _ => ?_) (fun c9 => absurd (by decide) c9)
    refine lv_ldc (v := (-1000000001 : Int32)) hx hb hown (hts (.constant RX4 110 (-1000000001)) (List.mem_of_getElem? (i := 3) rfl)) dX4_isFilm_22 ?_
    exact W.iret (v := (-1000000001 : Int32)) hx hb hr (fun t ht hW => ⟨(-1000000001 : Int32), rfl, by first | rfl | trivial | omega | assumption, ht⟩) (fun _ h9 => by cases h9) dX4_isFilm_24
set_option maxHeartbeats 1000000 in
set_option maxRecDepth 100000 in
theorem mt_X4_forgetImages (l : Launch) (G : gG) (h : Nat → Nat) (sz : Nat) (x : oS) (wn : oS) (wa : oS) (w0 : oS) (w1 : oS) (rd : oS) (wr : oS) (z : oS) (jj : Nat → Nat → Int64) (lt : Int64) : Met l yX4_forgetImages wsX4_forgetImages ({ frames := 0, cells := 0, slots := 0, locals := 0 }) (preW G (xw G h x wn wa w0 w1 rd wr z jj lt) sz [.ref (h 0)]) (va_Qv (fun (v : oS × oS × oS × oS × oS × oS × oS × oS × (Nat → Nat → Int64) × Int64) => ∃ x', v = (x', wn, wa, w0, w1, rd, wr, z, jj, lt)) (fun v t => PP G (xw G h v.1 v.2.1 v.2.2.1 v.2.2.2.1 v.2.2.2.2.1 v.2.2.2.2.2.1 v.2.2.2.2.2.2.1 v.2.2.2.2.2.2.2.1 v.2.2.2.2.2.2.2.2.1 v.2.2.2.2.2.2.2.2.2) t.heap) (va_A (xw G h x wn wa w0 w1 rd wr z jj lt) sz)) 0 0 (va_A (xw G h x wn wa w0 w1 rd wr z jj lt) sz) := by
  refine Met.ofW (cc := cX4_forgetImages) (maxL := 2) (ret := none) (by decide) rfl ?_
  intro p e s m args below meth c s₁ B hml hv
  obtain ⟨ha, hsz, hP, hK, hN, hD0⟩ := hv
  subst ha
  have hx := B.exec
  have hb := B.bytes
  have hr := B.returns
  have hts := atoms_spec (ws := wsX4_forgetImages) B.pre
  have hown : s.vm.findClass RX4 = some m.cls := findClass_of_methodNamed B.named
  have hlocks := B.notSynchronized
  subst hsz
  have hD := hD0.self (sz := s.heap.size)
  generalize hAe : va_A (xw G h x wn wa w0 w1 rd wr z jj lt) s.heap.size = A at hD ⊢
  have hA : ∀ q : Nat, s.heap.size ≤ q → A q := fun q h => by rw [← hAe]; exact Or.inr h
  clear hAe hD0
  have hS : va_S A s.heap s.heap [] := va_S.rf
  have hiX4 : ∀ w ∈ wsX40, w ∈ wsX4_forgetImages := by decide +kernel
  have k23 := hts (.fieldLink RX4 23 "WovenHistory" "kept" "[Z") (List.mem_of_getElem? (i := 1) rfl)
  have hl := lv_entry ([.ref (h 0)]) (n := 2) (Nat.le_of_ble_eq_true rfl)
  rw [lg_entry_eq]
  generalize (lg_sl ([.ref (h 0)]) ++ List.replicate (2 - (lg_sl ([.ref (h 0)])).length) Slot.unset).toArray = ls at hl ⊢
  have hl : lv_has ls 2 [(0, .ref (h 0))] := hl
  refine lv_iconst (v := nI 0) hx hb dX4_forgetImages_0 (by decide) ?_
  refine lv_istore_n (lv' := [(1, .int (nI 0)), (0, .ref (h 0))]) hx hb dX4_forgetImages_1 rfl hl (by decide) rfl (fun ls hl => ?_)
  have LP2 : ∀ (n2m : Nat), ∀ (k : Nat) (f3 : Nat → Int32) (hk : k ≤ 2), (2 - k < n2m) → ∀ (H : Heap) (locs : List Loc) (ls : Array Slot), PP G (xw G h (oA x 3 f3) wn wa w0 w1 rd wr z jj lt) H → va_D A (xw G h (oA x 3 f3) wn wa w0 w1 rd wr z jj lt) → va_S A s.heap H locs → lv_has ls 2 [(0, .ref (h 0)), (1, .int (nI k))] → W p l e (headSpec wsX4_forgetImages ({ frames := 0, cells := 0, slots := 0, locals := 0 })).room s m ([.ref (h 0)] : List Value).toArray below meth c H locs 0 0 (MQ below (va_Qv (fun (v : oS × oS × oS × oS × oS × oS × oS × oS × (Nat → Nat → Int64) × Int64) => ∃ x', v = (x', wn, wa, w0, w1, rd, wr, z, jj, lt)) (fun v t => PP G (xw G h v.1 v.2.1 v.2.2.1 v.2.2.2.1 v.2.2.2.2.1 v.2.2.2.2.2.1 v.2.2.2.2.2.2.1 v.2.2.2.2.2.2.2.1 v.2.2.2.2.2.2.2.2.1 v.2.2.2.2.2.2.2.2.2) t.heap) A) ([.ref (h 0)] : List Value).toArray s 0 0 A) (F0 m 2 ls []) := by
    intro n2m
    induction n2m with
    | zero => intro k f3 hk hmu H locs ls hP hD hS hl; exact absurd hmu (Nat.not_lt_zero _)
    | succ n2m ih2 =>
      intro k f3 hk hmu H locs ls hP hD hS hl
      refine lv_iload_n hx hb dX4_forgetImages_2 rfl (lv_at hl 1 rfl) ?_
      refine lv_iconst (v := nI 2) hx hb dX4_forgetImages_3 (by decide) ?_
      refine lv_icmp_ge (tgt := 20) hx hb dX4_forgetImages_4 (by decide) (fun c4 => ?_) (fun c4 => ?_)
      · skip
        have n4 : 2 ≤ k := (nI_leI (a := 2) (b := k) (by omega) (by omega)).mp c4
        exact W.vret hx hb hr (fun t ht hW => ⟨⟨(oA x 3 f3, wn, wa, w0, w1, rd, wr, z, jj, lt), rfl, ⟨_, rfl⟩, show PP G (xw G h (oA x 3 f3) wn wa w0 w1 rd wr z jj lt) t.heap by rw [ht]; exact hP⟩, hS.F ht⟩) hS.2.2 dX4_forgetImages_20
      · skip
        have n4 : ¬ (2 ≤ k) := fun q9 => c4 ((nI_leI (a := 2) (b := k) (by omega) (by omega)).mpr q9)
        refine lv_aload_n hx hb dX4_forgetImages_7 rfl (lv_at hl 0 rfl) ?_
        refine va_get (D := gD G) (ci := 4) (v := .ref (h 3)) (C := RX4) (T := TX4) (N := 9) hx hb hts hiX4 hown hK hP 0 rfl rfl 3 (by decide) k23 (fun _ h9 => h9) rfl dX4_forgetImages_8 ?_
        refine lv_iload_n hx hb dX4_forgetImages_11 rfl (lv_at hl 1 rfl) ?_
        refine lv_iconst (v := nI 0) hx hb dX4_forgetImages_12 (by decide) ?_
        refine zastN (f := f3) (n := 2) (k := k) hx hb hK hP hD hS 2 rfl rfl (by omega) (Or.inl rfl) dX4_forgetImages_13 (fun H locs hP hD hS => ?_)
        have hP : PP G (xw G h (oA (oA x 3 f3) 3 (upd f3 k (nI 0))) wn wa w0 w1 rd wr z jj lt) H := hP
        have hD : va_D A (xw G h (oA (oA x 3 f3) 3 (upd f3 k (nI 0))) wn wa w0 w1 rd wr z jj lt) := hD
        refine lv_iinc (v := nI (k + 1)) (lv' := [(1, .int (nI (k + 1))), (0, .ref (h 0))]) hx hb dX4_forgetImages_14 hl (k := 1) rfl (nI_1 k) (by decide) rfl (fun ls hl => ?_)
        refine lv_goto (tgt := 2) hx hb dX4_forgetImages_17 (by decide) ?_
        exact ih2 (k + 1) (upd f3 k (nI 0)) (by first | assumption | omega) (by omega) _ _ ls hP hD hS (lv_sub hl [1, 0] rfl)
  exact LP2 (2 - 0 + 1) 0 (x.2 3) (by first | assumption | omega) (Nat.lt_succ_self _) _ _ ls hP hD hS (lv_sub hl [1, 0] rfl)
set_option maxHeartbeats 1000000 in
set_option maxRecDepth 100000 in
theorem mt_X4_feed (l : Launch) (G : gG) (h : Nat → Nat) (sz : Nat) (x : oS) (wn : oS) (wa : oS) (w0 : oS) (w1 : oS) (rd : oS) (wr : oS) (z : oS) (jj : Nat → Nat → Int64) (lt : Int64) (nv : Nat) (nl : Nat) (nva : Nat) (nla : Nat) (nv0 : Nat) (nl0 : Nat) (nv1 : Nat) (nl1 : Nat) (len : Nat) (a : Int32) (hnv : wn.1 0 = nI nv) (hnl : wn.1 5 = nI nl) (hnva : wa.1 0 = nI nva) (hnla : wa.1 5 = nI nla) (hnv0 : w0.1 0 = nI nv0) (hnl0 : w0.1 5 = nI nl0) (hnv1 : w1.1 0 = nI nv1) (hnl1 : w1.1 5 = nI nl1) (hlen : rd.1 1 = nI len) (hnv24 : nv ≤ 24) (hnl120 : nl ≤ 120) (hva24 : nva ≤ 24) (hla120 : nla ≤ 120) (hv024 : nv0 ≤ 24) (hl0120 : nl0 ≤ 120) (hv124 : nv1 ≤ 24) (hl1120 : nl1 ≤ 120) (hl240 : len ≤ 240) (hsz : ∀ j, j < 4 → z.2 1 j = -1 ∨ ∃ q, q ≤ 40 ∧ z.2 1 j = nI q) : Met l yX4_feed wsX4_feed ({ frames := 1, cells := 0, slots := 0, locals := 21 }) (preW G (xw G h x wn wa w0 w1 rd wr z jj lt) sz [.ref (h 0), .int a]) (va_Qi (fun (r : Int32) (v : oS × oS × oS × oS × oS × oS × oS × oS × (Nat → Nat → Int64) × Int64) => (r = -1000000002 ∧ XQ rd z v ∧ ∀ j, j ≤ 255 → a ≠ nI j) ∨ ((∃ j, j ≤ 255 ∧ a = nI j) ∧ len = 240 ∧ r = -1000000004 ∧ XQ rd z v) ∨ ((∃ j, j ≤ 255 ∧ a = nI j) ∧ len < 240 ∧ r = nI (len + 1) ∧ XQ (oI rd 1 (nI (len + 1))) z v)) (fun v t => PP G (xw G h v.1 v.2.1 v.2.2.1 v.2.2.2.1 v.2.2.2.2.1 v.2.2.2.2.2.1 v.2.2.2.2.2.2.1 v.2.2.2.2.2.2.2.1 v.2.2.2.2.2.2.2.2.1 v.2.2.2.2.2.2.2.2.2) t.heap) (va_A (xw G h x wn wa w0 w1 rd wr z jj lt) sz)) 0 0 (va_A (xw G h x wn wa w0 w1 rd wr z jj lt) sz) := by
  refine Met.ofW (cc := cX4_feed) (maxL := 2) (ret := (some .int)) (by decide) rfl ?_
  intro p e s m args below meth c s₁ B hml hv
  obtain ⟨ha, hsz, hP, hK, hN, hD0⟩ := hv
  subst ha
  have hx := B.exec
  have hb := B.bytes
  have hr := B.returns
  have hts := atoms_spec (ws := wsX4_feed) B.pre
  have hown : s.vm.findClass RX4 = some m.cls := findClass_of_methodNamed B.named
  have hlocks := B.notSynchronized
  subst hsz
  have hD := hD0.self (sz := s.heap.size)
  generalize hAe : va_A (xw G h x wn wa w0 w1 rd wr z jj lt) s.heap.size = A at hD ⊢
  have hA : ∀ q : Nat, s.heap.size ≤ q → A q := fun q h => by rw [← hAe]; exact Or.inr h
  clear hAe hD0
  have hS : va_S A s.heap s.heap [] := va_S.rf
  have hiX4 : ∀ w ∈ wsX40, w ∈ wsX4_feed := by decide +kernel
  have k30 := hts (.fieldLink RX4 30 "WovenHistory" "reader" "LWovenHistory$Reader;") (List.mem_of_getElem? (i := 2) rfl)
  have hiX1 : ∀ w ∈ wsX10, w ∈ wsX4_feed := by decide +kernel
  have k61 : (Cond.fieldLinkNest "WovenHistory" 61 "WovenHistory$Reader" "length" "I" "WovenHistory").before _ s = true := va_Nw.use (A := ([.ref (h 0), .int a] : List Value).toArray) rfl (hN.1 ("WovenHistory", 61, "WovenHistory$Reader", "length", "I") (List.mem_of_getElem? (i := 9) rfl))
  have hl := lv_entry ([.ref (h 0), .int a]) (n := 2) (Nat.le_of_ble_eq_true rfl)
  rw [lg_entry_eq]
  generalize (lg_sl ([.ref (h 0), .int a]) ++ List.replicate (2 - (lg_sl ([.ref (h 0), .int a])).length) Slot.unset).toArray = ls at hl ⊢
  have hl : lv_has ls 2 [(0, .ref (h 0)), (1, .int a)] := hl
  refine lv_iload_n hx hb dX4_feed_0 rfl (lv_at hl 1 rfl) ?_
  refine lv_if_lt (tgt := 11) hx hb dX4_feed_1 (by decide) (fun c1 => ?_) (fun c1 => ?_)
  · skip
    refine lv_ldc (v := (-1000000002 : Int32)) hx hb hown (hts (.constant RX4 56 (-1000000002)) (List.mem_of_getElem? (i := 1) rfl)) dX4_feed_11 ?_
    exact W.iret (v := (-1000000002 : Int32)) hx hb hr (fun t ht hW => ⟨⟨(-1000000002 : Int32), (x, wn, wa, w0, w1, rd, wr, z, jj, lt), rfl, Or.inl ⟨rfl, ⟨_, _, _, _, _, _, _, _, _, _, rfl, ⟨nv, nl, hnv, by omega, hnl, by omega⟩, ⟨nva, nla, hnva, by omega, hnla, by omega⟩, ⟨nv0, nl0, hnv0, by omega, hnl0, by omega⟩, ⟨nv1, nl1, hnv1, by omega, hnl1, by omega⟩, rfl, rfl⟩, by first | exact le_n1 (by omega) (by assumption) | exact le_n2 (by omega) (by assumption)⟩, show PP G (xw G h x wn wa w0 w1 rd wr z jj lt) t.heap by rw [ht]; exact hP⟩, hS.F ht⟩) hS.2.2 dX4_feed_13
  · skip
    refine lv_iload_n hx hb dX4_feed_4 rfl (lv_at hl 1 rfl) ?_
    refine lv_sipush (v := nI 255) hx hb dX4_feed_5 (by decide) ?_
    refine lv_icmp_le (tgt := 14) hx hb dX4_feed_8 (by decide) (fun c8 => ?_) (fun c8 => ?_)
    · skip
      refine lv_aload_n hx hb dX4_feed_14 rfl (lv_at hl 0 rfl) ?_
      refine va_get (D := gD G) (ci := 4) (v := .ref (h 50)) (C := RX4) (T := TX4) (N := 9) hx hb hts hiX4 hown hK hP 0 rfl rfl 4 (by decide) k30 (fun _ h9 => h9) rfl dX4_feed_15 ?_
      refine lv_iload_n hx hb dX4_feed_18 rfl (lv_at hl 1 rfl) ?_
      refine cWi (As := [.int a]) (rest := []) (S := oS × oS) (wa := xw G h x wn wa w0 w1 rd wr z jj lt) (wc := rv G (fun k => h (50 + k)) rd wr) (w1 := fun v => rv G (fun k => h (50 + k)) v.1 v.2) (wa' := fun v => xw G h x wn wa w0 w1 v.1 v.2 z jj lt) ⟨hx, hb, hml, hown, hts⟩ (mt_X1_addLetter l G (fun k => h (50 + k)) _ rd wr len a (hlen) (by first | assumption | omega)) (cwV 1 hts gX4_feed_X1_addLetter rfl rfl rfl (by decide +kernel) ⟨Nat.le_of_ble_eq_true rfl, Nat.le_of_ble_eq_true rfl⟩) hK hN hP hD hS hA [35, 36, 37, 38, 39, 40, 41, 42, 43, 44, 45, 46] rfl (by decide) rfl (fun _ => rfl) (fun _ => rfl) (fun _ => rfl) 0 1 rfl rfl rfl hl.1 rfl (Nat.le_of_ble_eq_true rfl) ⟨Nat.zero_le _, Nat.zero_le _⟩ dX4_feed_19 (fun r19 u19 H locs hw19 hP hD hS => ?_)
      rcases hw19 with ⟨hl19, rfl, rfl⟩ | ⟨hl19, q19, rfl, hR19, e119, rfl⟩
      · skip
        have hP : PP G (xw G h x wn wa w0 w1 rd wr z jj lt) H := hP
        have hD : va_D A (xw G h x wn wa w0 w1 rd wr z jj lt) := hD
        refine lv_if_eq (tgt := 35) hx hb dX4_feed_22 (by decide) (fun _ => ?_) (fun c9 => absurd (by decide) c9)
        refine lv_ldc (v := (-1000000004 : Int32)) hx hb hown (hts (.constant RX4 64 (-1000000004)) (List.mem_of_getElem? (i := 3) rfl)) dX4_feed_35 ?_
        exact W.iret (v := (-1000000004 : Int32)) hx hb hr (fun t ht hW => ⟨⟨(-1000000004 : Int32), (x, wn, wa, w0, w1, rd, wr, z, jj, lt), rfl, Or.inr (Or.inl ⟨le_y (by omega) (by assumption) (by assumption), by assumption, rfl, ⟨_, _, _, _, _, _, _, _, _, _, rfl, ⟨nv, nl, hnv, by omega, hnl, by omega⟩, ⟨nva, nla, hnva, by omega, hnla, by omega⟩, ⟨nv0, nl0, hnv0, by omega, hnl0, by omega⟩, ⟨nv1, nl1, hnv1, by omega, hnl1, by omega⟩, rfl, rfl⟩⟩), show PP G (xw G h x wn wa w0 w1 rd wr z jj lt) t.heap by rw [ht]; exact hP⟩, hS.F ht⟩) hS.2.2 dX4_feed_37
      · skip
        have hP : PP G (xw G h x wn wa w0 w1 q19 wr z jj lt) H := hP
        have hD : va_D A (xw G h x wn wa w0 w1 q19 wr z jj lt) := hD
        refine lv_if_eq (tgt := 35) hx hb dX4_feed_22 (by decide) (fun c9 => absurd c9 (by decide)) (fun _ => ?_)
        refine lv_aload_n hx hb dX4_feed_25 rfl (lv_at hl 0 rfl) ?_
        refine va_get (D := gD G) (ci := 4) (v := .ref (h 50)) (C := RX4) (T := TX4) (N := 9) hx hb hts hiX4 hown hK hP 0 rfl rfl 4 (by decide) k30 (fun _ h9 => h9) rfl dX4_feed_26 ?_
        refine va_getN (D := gD G) (ci := 1) (v := .int (q19.1 1)) (C := RX1) (T := TX1) (N := 10) hx hb hts hiX1 hown hK hP 35 rfl rfl 1 (by decide) k61 (fun _ h9 => h9) rfl dX4_feed_29 ?_
        refine topE e119 ?_
        refine lv_goto (tgt := 37) hx hb dX4_feed_32 (by decide) ?_
        exact W.iret (v := nI (len + 1)) hx hb hr (fun t ht hW => ⟨⟨nI (len + 1), (x, wn, wa, w0, w1, q19, wr, z, jj, lt), rfl, Or.inr (Or.inr ⟨le_y (by omega) (by assumption) (by assumption), by assumption, rfl, ⟨_, _, _, _, _, _, _, _, _, _, rfl, ⟨nv, nl, hnv, by omega, hnl, by omega⟩, ⟨nva, nla, hnva, by omega, hnla, by omega⟩, ⟨nv0, nl0, hnv0, by omega, hnl0, by omega⟩, ⟨nv1, nl1, hnv1, by omega, hnl1, by omega⟩, e119, rfl⟩⟩), show PP G (xw G h x wn wa w0 w1 q19 wr z jj lt) t.heap by rw [ht]; exact hP⟩, hS.F ht⟩) hS.2.2 dX4_feed_37
    · skip
      refine lv_ldc (v := (-1000000002 : Int32)) hx hb hown (hts (.constant RX4 56 (-1000000002)) (List.mem_of_getElem? (i := 1) rfl)) dX4_feed_11 ?_
      exact W.iret (v := (-1000000002 : Int32)) hx hb hr (fun t ht hW => ⟨⟨(-1000000002 : Int32), (x, wn, wa, w0, w1, rd, wr, z, jj, lt), rfl, Or.inl ⟨rfl, ⟨_, _, _, _, _, _, _, _, _, _, rfl, ⟨nv, nl, hnv, by omega, hnl, by omega⟩, ⟨nva, nla, hnva, by omega, hnla, by omega⟩, ⟨nv0, nl0, hnv0, by omega, hnl0, by omega⟩, ⟨nv1, nl1, hnv1, by omega, hnl1, by omega⟩, rfl, rfl⟩, by first | exact le_n1 (by omega) (by assumption) | exact le_n2 (by omega) (by assumption)⟩, show PP G (xw G h x wn wa w0 w1 rd wr z jj lt) t.heap by rw [ht]; exact hP⟩, hS.F ht⟩) hS.2.2 dX4_feed_13
set_option maxHeartbeats 1000000 in
set_option maxRecDepth 100000 in
theorem mt_X4_weave (l : Launch) (G : gG) (h : Nat → Nat) (sz : Nat) (x : oS) (wn : oS) (wa : oS) (w0 : oS) (w1 : oS) (rd : oS) (wr : oS) (z : oS) (jj : Nat → Nat → Int64) (lt : Int64) (nv : Nat) (nl : Nat) (nva : Nat) (nla : Nat) (nv0 : Nat) (nl0 : Nat) (nv1 : Nat) (nl1 : Nat) (len : Nat) (hnv : wn.1 0 = nI nv) (hnl : wn.1 5 = nI nl) (hnva : wa.1 0 = nI nva) (hnla : wa.1 5 = nI nla) (hnv0 : w0.1 0 = nI nv0) (hnl0 : w0.1 5 = nI nl0) (hnv1 : w1.1 0 = nI nv1) (hnl1 : w1.1 5 = nI nl1) (hlen : rd.1 1 = nI len) (hnv24 : nv ≤ 24) (hnl120 : nl ≤ 120) (hva24 : nva ≤ 24) (hla120 : nla ≤ 120) (hv024 : nv0 ≤ 24) (hl0120 : nl0 ≤ 120) (hv124 : nv1 ≤ 24) (hl1120 : nl1 ≤ 120) (hl240 : len ≤ 240) (hsz : ∀ j, j < 4 → z.2 1 j = -1 ∨ ∃ q, q ≤ 40 ∧ z.2 1 j = nI q) : Met l yX4_weave wsX4_weave ({ frames := 6, cells := 0, slots := 0, locals := 138 }) (preW G (xw G h x wn wa w0 w1 rd wr z jj lt) sz [.ref (h 0)]) (va_Qi (fun (r : Int32) (v : oS × oS × oS × oS × oS × oS × oS × oS × (Nat → Nat → Int64) × Int64) => XQ (oI rd 1 (nI 0)) z v) (fun v t => PP G (xw G h v.1 v.2.1 v.2.2.1 v.2.2.2.1 v.2.2.2.2.1 v.2.2.2.2.2.1 v.2.2.2.2.2.2.1 v.2.2.2.2.2.2.2.1 v.2.2.2.2.2.2.2.2.1 v.2.2.2.2.2.2.2.2.2) t.heap) (va_A (xw G h x wn wa w0 w1 rd wr z jj lt) sz)) 0 0 (va_A (xw G h x wn wa w0 w1 rd wr z jj lt) sz) := by
  refine Met.ofW (cc := cX4_weave) (maxL := 2) (ret := (some .int)) (by decide) rfl ?_
  intro p e s m args below meth c s₁ B hml hv
  obtain ⟨ha, hsz, hP, hK, hN, hD0⟩ := hv
  subst ha
  have hx := B.exec
  have hb := B.bytes
  have hr := B.returns
  have hts := atoms_spec (ws := wsX4_weave) B.pre
  have hown : s.vm.findClass RX4 = some m.cls := findClass_of_methodNamed B.named
  have hlocks := B.notSynchronized
  subst hsz
  have hD := hD0.self (sz := s.heap.size)
  generalize hAe : va_A (xw G h x wn wa w0 w1 rd wr z jj lt) s.heap.size = A at hD ⊢
  have hA : ∀ q : Nat, s.heap.size ≤ q → A q := fun q h => by rw [← hAe]; exact Or.inr h
  clear hAe hD0
  have hS : va_S A s.heap s.heap [] := va_S.rf
  have hiX4 : ∀ w ∈ wsX40, w ∈ wsX4_weave := by decide +kernel
  have k30 := hts (.fieldLink RX4 30 "WovenHistory" "reader" "LWovenHistory$Reader;") (List.mem_of_getElem? (i := 1) rfl)
  have hiX1 : ∀ w ∈ wsX10, w ∈ wsX4_weave := by decide +kernel
  have k69 : (Cond.fieldLinkNest "WovenHistory" 69 "WovenHistory$Reader" "faultAt" "I" "WovenHistory").before _ s = true := va_Nw.use (A := ([.ref (h 0)] : List Value).toArray) rfl (hN.1 ("WovenHistory", 69, "WovenHistory$Reader", "faultAt", "I") (List.mem_of_getElem? (i := 10) rfl))
  have k52 := hts (.fieldLink RX4 52 "WovenHistory" "latestFaultAt" "I") (List.mem_of_getElem? (i := 2) rfl)
  have k10 := hts (.fieldLink RX4 10 "WovenHistory" "now" "LWovenHistory$Weave;") (List.mem_of_getElem? (i := 3) rfl)
  have k72 : (Cond.fieldLinkNest "WovenHistory" 72 "WovenHistory$Reader" "woven" "LWovenHistory$Weave;" "WovenHistory").before _ s = true := va_Nw.use (A := ([.ref (h 0)] : List Value).toArray) rfl (hN.1 ("WovenHistory", 72, "WovenHistory$Reader", "woven", "LWovenHistory$Weave;") (List.mem_of_getElem? (i := 11) rfl))
  have k48 := hts (.fieldLink RX4 48 "WovenHistory" "opened" "Z") (List.mem_of_getElem? (i := 4) rfl)
  have hiX3 : ∀ w ∈ wsX30, w ∈ wsX4_weave := by decide +kernel
  have k82 : (Cond.fieldLinkNest "WovenHistory" 82 "WovenHistory$Weave" "versions" "I" "WovenHistory").before _ s = true := va_Nw.use (A := ([.ref (h 0)] : List Value).toArray) rfl (hN.1 ("WovenHistory", 82, "WovenHistory$Weave", "versions", "I") (List.mem_of_getElem? (i := 12) rfl))
  have hl := lv_entry ([.ref (h 0)]) (n := 2) (Nat.le_of_ble_eq_true rfl)
  rw [lg_entry_eq]
  generalize (lg_sl ([.ref (h 0)]) ++ List.replicate (2 - (lg_sl ([.ref (h 0)])).length) Slot.unset).toArray = ls at hl ⊢
  have hl : lv_has ls 2 [(0, .ref (h 0))] := hl
  refine lv_aload_n hx hb dX4_weave_0 rfl (lv_at hl 0 rfl) ?_
  refine va_get (D := gD G) (ci := 4) (v := .ref (h 50)) (C := RX4) (T := TX4) (N := 9) hx hb hts hiX4 hown hK hP 0 rfl rfl 4 (by decide) k30 (fun _ h9 => h9) rfl dX4_weave_1 ?_
  refine cWi (As := []) (rest := []) (S := oS × oS) (wa := xw G h x wn wa w0 w1 rd wr z jj lt) (wc := rv G (fun k => h (50 + k)) rd wr) (w1 := fun v => rv G (fun k => h (50 + k)) v.1 v.2) (wa' := fun v => xw G h x wn wa w0 w1 v.1 v.2 z jj lt) ⟨hx, hb, hml, hown, hts⟩ (mt_X1_readAll l G (fun k => h (50 + k)) _ rd wr len (hlen) (by first | assumption | omega)) (cwV 0 hts gX4_weave_X1_readAll rfl rfl rfl (by decide +kernel) ⟨Nat.le_of_ble_eq_true rfl, Nat.le_of_ble_eq_true rfl⟩) hK hN hP hD hS hA [35, 36, 37, 38, 39, 40, 41, 42, 43, 44, 45, 46] rfl (by decide) rfl (fun _ => rfl) (fun _ => rfl) (fun _ => rfl) 0 1 rfl rfl rfl hl.1 rfl (Nat.le_of_ble_eq_true rfl) ⟨Nat.zero_le _, Nat.zero_le _⟩ dX4_weave_4 (fun r4 u4 H locs hw4 hP hD hS => ?_)
  obtain ⟨q4, p4, n4, m4, rfl, hl4, en4, hn4, em4, hm4⟩ := hw4
  have hP : PP G (xw G h x wn wa w0 w1 q4 p4 z jj lt) H := hP
  have hD : va_D A (xw G h x wn wa w0 w1 q4 p4 z jj lt) := hD
  refine lv_istore_n (lv' := [(1, .int r4), (0, .ref (h 0))]) hx hb dX4_weave_7 rfl hl (by decide) rfl (fun ls hl => ?_)
  refine lv_aload_n hx hb dX4_weave_8 rfl (lv_at hl 1 rfl) ?_
  refine lv_aload_n hx hb dX4_weave_9 rfl (lv_at hl 1 rfl) ?_
  refine va_get (D := gD G) (ci := 4) (v := .ref (h 50)) (C := RX4) (T := TX4) (N := 9) hx hb hts hiX4 hown hK hP 0 rfl rfl 4 (by decide) k30 (fun _ h9 => h9) rfl dX4_weave_10 ?_
  refine va_getN (D := gD G) (ci := 1) (v := .int (q4.1 5)) (C := RX1) (T := TX1) (N := 10) hx hb hts hiX1 hown hK hP 35 rfl rfl 5 (by decide) k69 (fun _ h9 => h9) rfl dX4_weave_13 ?_
  refine va_put (D := gD G) (ci := 4) (v := .int (q4.1 5)) (ty := .int) (C := RX4) (T := TX4) (N := 9) hx hb hts hiX4 tyX4 tyX4_ok nmX4 hown hK hP hD hS 0 rfl rfl 8 (by decide) k52 (fun _ h9 => h9) rfl (by decide +kernel) (rfl) (rfl) (Nat.le_of_ble_eq_true rfl) dX4_weave_16 (fun H locs hP hD hS => ?_)
  have hP : PP G (xw G h (oI x 8 (q4.1 5)) wn wa w0 w1 q4 p4 z jj lt) H := hP
  have hD : va_D A (xw G h (oI x 8 (q4.1 5)) wn wa w0 w1 q4 p4 z jj lt) := hD
  refine lv_iload_n hx hb dX4_weave_19 rfl (lv_at hl 0 rfl) ?_
  refine lv_if_eq (tgt := 28) hx hb dX4_weave_20 (by decide) (fun c20 => ?_) (fun c20 => ?_)
  · skip
    refine lv_aload_n hx hb dX4_weave_28 rfl (lv_at hl 1 rfl) ?_
    refine va_get (D := gD G) (ci := 4) (v := .ref (h 10)) (C := RX4) (T := TX4) (N := 9) hx hb hts hiX4 hown hK hP 0 rfl rfl 0 (by decide) k10 (fun _ h9 => h9) rfl dX4_weave_29 ?_
    refine lv_aload_n hx hb dX4_weave_32 rfl (lv_at hl 1 rfl) ?_
    refine va_get (D := gD G) (ci := 4) (v := .ref (h 50)) (C := RX4) (T := TX4) (N := 9) hx hb hts hiX4 hown hK hP 0 rfl rfl 4 (by decide) k30 (fun _ h9 => h9) rfl dX4_weave_33 ?_
    refine va_getN (D := gD G) (ci := 1) (v := .ref (h 60)) (C := RX1) (T := TX1) (N := 10) hx hb hts hiX1 hown hK hP 35 rfl rfl 9 (by decide) k72 (fun _ h9 => h9) rfl dX4_weave_36 ?_
    refine cWv (As := [.ref (h 60)]) (rest := []) (S := oS × oS) (wa := xw G h (oI x 8 (q4.1 5)) wn wa w0 w1 q4 p4 z jj lt) (wc := wb G (fun k => h (10 + k)) (fun k => h (60 + k)) wn p4) (w1 := fun v => wb G (fun k => h (10 + k)) (fun k => h (60 + k)) v.1 v.2) (wa' := fun v => xw G h (oI x 8 (q4.1 5)) v.1 wa w0 w1 q4 v.2 z jj lt) ⟨hx, hb, hml, hown, hts⟩ (mt_X3_become l G (fun k => h (10 + k)) _ wn p4 (fun k => h (60 + k))) (cwV 1 hts gX4_weave_X3_become rfl rfl rfl (by decide +kernel) ⟨Nat.le_of_ble_eq_true rfl, Nat.le_of_ble_eq_true rfl⟩) hK hN hP hD hS hA [3, 4, 5, 6, 7, 8, 9, 10, 39, 40, 41, 42, 43, 44, 45, 46] rfl (by decide) rfl (fun _ => rfl) (fun _ => rfl) (fun _ => rfl) 0 3 rfl rfl rfl hl.1 rfl (Nat.le_of_ble_eq_true rfl) ⟨Nat.zero_le _, Nat.zero_le _⟩ dX4_weave_39 (fun u39 H locs hw39 hP hD hS => ?_)
    obtain ⟨w39, rfl, e39a, e39b⟩ := hw39
    have hP : PP G (xw G h (oI x 8 (q4.1 5)) w39 wa w0 w1 q4 p4 z jj lt) H := hP
    have hD : va_D A (xw G h (oI x 8 (q4.1 5)) w39 wa w0 w1 q4 p4 z jj lt) := hD
    refine lv_aload_n hx hb dX4_weave_42 rfl (lv_at hl 1 rfl) ?_
    refine lv_iconst (v := nI 0) hx hb dX4_weave_43 (by decide) ?_
    refine va_put (D := gD G) (ci := 4) (v := .int (nI 0)) (ty := .boolean) (C := RX4) (T := TX4) (N := 9) hx hb hts hiX4 tyX4 tyX4_ok nmX4 hown hK hP hD hS 0 rfl rfl 7 (by decide) k48 (fun _ h9 => h9) rfl (by decide +kernel) (rfl) (rfl) (Nat.le_of_ble_eq_true rfl) dX4_weave_44 (fun H locs hP hD hS => ?_)
    have hP : PP G (xw G h (oI (oI x 8 (q4.1 5)) 7 (nI 0)) w39 wa w0 w1 q4 p4 z jj lt) H := hP
    have hD : va_D A (xw G h (oI (oI x 8 (q4.1 5)) 7 (nI 0)) w39 wa w0 w1 q4 p4 z jj lt) := hD
    refine lv_aload_n hx hb dX4_weave_47 rfl (lv_at hl 1 rfl) ?_
    refine cXv (As := []) (rest := []) (S := oS × oS × oS × oS × oS × oS × oS × oS × (Nat → Nat → Int64) × Int64) (wa := xw G h (oI (oI x 8 (q4.1 5)) 7 (nI 0)) w39 wa w0 w1 q4 p4 z jj lt) (w1 := fun v => xw G h v.1 v.2.1 v.2.2.1 v.2.2.2.1 v.2.2.2.2.1 v.2.2.2.2.2.1 v.2.2.2.2.2.2.1 v.2.2.2.2.2.2.2.1 v.2.2.2.2.2.2.2.2.1 v.2.2.2.2.2.2.2.2.2) ⟨hx, hb, hml, hown, hts⟩ (mt_X4_forgetImages l G h _ (oI (oI x 8 (q4.1 5)) 7 (nI 0)) w39 wa w0 w1 q4 p4 z jj lt) (cwV 0 hts gX4_weave_X4_forgetImages rfl rfl rfl (by decide +kernel) ⟨Nat.le_of_ble_eq_true rfl, Nat.le_of_ble_eq_true rfl⟩) hK hN hP hD hS hA (fun _ => rfl) 0 4 rfl rfl rfl hl.1 rfl (Nat.le_of_ble_eq_true rfl) ⟨Nat.zero_le _, Nat.zero_le _⟩ dX4_weave_48 (fun u48 H locs hw48 hP hD hS => ?_)
    obtain ⟨x48, rfl⟩ := hw48
    have hP : PP G (xw G h x48 w39 wa w0 w1 q4 p4 z jj lt) H := hP
    have hD : va_D A (xw G h x48 w39 wa w0 w1 q4 p4 z jj lt) := hD
    refine lv_aload_n hx hb dX4_weave_51 rfl (lv_at hl 1 rfl) ?_
    refine va_get (D := gD G) (ci := 4) (v := .ref (h 10)) (C := RX4) (T := TX4) (N := 9) hx hb hts hiX4 hown hK hP 0 rfl rfl 0 (by decide) k10 (fun _ h9 => h9) rfl dX4_weave_52 ?_
    refine va_getN (D := gD G) (ci := 3) (v := .int (w39.1 0)) (C := RX3) (T := TX3) (N := 9) hx hb hts hiX3 hown hK hP 3 rfl rfl 0 (by decide) k82 (fun _ h9 => h9) rfl dX4_weave_55 ?_
    refine topE (e39a.trans (en4)) ?_
    exact W.iret (v := nI n4) hx hb hr (fun t ht hW => ⟨⟨nI n4, (x48, w39, wa, w0, w1, q4, p4, z, jj, lt), rfl, ⟨_, _, _, _, _, _, _, _, _, _, rfl, ⟨n4, m4, e39a.trans (en4), by omega, e39b.trans (em4), by omega⟩, ⟨nva, nla, hnva, by omega, hnla, by omega⟩, ⟨nv0, nl0, hnv0, by omega, hnl0, by omega⟩, ⟨nv1, nl1, hnv1, by omega, hnl1, by omega⟩, hl4, rfl⟩, show PP G (xw G h x48 w39 wa w0 w1 q4 p4 z jj lt) t.heap by rw [ht]; exact hP⟩, hS.F ht⟩) hS.2.2 dX4_weave_58
  · skip
    refine lv_bipush (v := (-10 : Int32)) hx hb dX4_weave_23 (by decide) ?_
    refine lv_iload_n hx hb dX4_weave_25 rfl (lv_at hl 0 rfl) ?_
    refine lv_isub hx hb dX4_weave_26 ?_
    exact W.iret (v := (-10 : Int32) - r4) hx hb hr (fun t ht hW => ⟨⟨(-10 : Int32) - r4, (oI x 8 (q4.1 5), wn, wa, w0, w1, q4, p4, z, jj, lt), rfl, ⟨_, _, _, _, _, _, _, _, _, _, rfl, ⟨nv, nl, hnv, by omega, hnl, by omega⟩, ⟨nva, nla, hnva, by omega, hnla, by omega⟩, ⟨nv0, nl0, hnv0, by omega, hnl0, by omega⟩, ⟨nv1, nl1, hnv1, by omega, hnl1, by omega⟩, hl4, rfl⟩, show PP G (xw G h (oI x 8 (q4.1 5)) wn wa w0 w1 q4 p4 z jj lt) t.heap by rw [ht]; exact hP⟩, hS.F ht⟩) hS.2.2 dX4_weave_27
set_option maxHeartbeats 1000000 in
set_option maxRecDepth 100000 in
theorem mt_X4_open (l : Launch) (G : gG) (h : Nat → Nat) (sz : Nat) (x : oS) (wn : oS) (wa : oS) (w0 : oS) (w1 : oS) (rd : oS) (wr : oS) (z : oS) (jj : Nat → Nat → Int64) (lt : Int64) (nv : Nat) (nl : Nat) (nva : Nat) (nla : Nat) (nv0 : Nat) (nl0 : Nat) (nv1 : Nat) (nl1 : Nat) (len : Nat) (a : Int32) (hnv : wn.1 0 = nI nv) (hnl : wn.1 5 = nI nl) (hnva : wa.1 0 = nI nva) (hnla : wa.1 5 = nI nla) (hnv0 : w0.1 0 = nI nv0) (hnl0 : w0.1 5 = nI nl0) (hnv1 : w1.1 0 = nI nv1) (hnl1 : w1.1 5 = nI nl1) (hlen : rd.1 1 = nI len) (hnv24 : nv ≤ 24) (hnl120 : nl ≤ 120) (hva24 : nva ≤ 24) (hla120 : nla ≤ 120) (hv024 : nv0 ≤ 24) (hl0120 : nl0 ≤ 120) (hv124 : nv1 ≤ 24) (hl1120 : nl1 ≤ 120) (hl240 : len ≤ 240) (hsz : ∀ j, j < 4 → z.2 1 j = -1 ∨ ∃ q, q ≤ 40 ∧ z.2 1 j = nI q) : Met l yX4_open wsX4_open ({ frames := 3, cells := 0, slots := 0, locals := 65 }) (preW G (xw G h x wn wa w0 w1 rd wr z jj lt) sz [.ref (h 0), .int a]) (va_Qi (fun (r : Int32) (v : oS × oS × oS × oS × oS × oS × oS × oS × (Nat → Nat → Int64) × Int64) => XQ rd z v) (fun v t => PP G (xw G h v.1 v.2.1 v.2.2.1 v.2.2.2.1 v.2.2.2.2.1 v.2.2.2.2.2.1 v.2.2.2.2.2.2.1 v.2.2.2.2.2.2.2.1 v.2.2.2.2.2.2.2.2.1 v.2.2.2.2.2.2.2.2.2) t.heap) (va_A (xw G h x wn wa w0 w1 rd wr z jj lt) sz)) 0 0 (va_A (xw G h x wn wa w0 w1 rd wr z jj lt) sz) := by
  refine Met.ofW (cc := cX4_open) (maxL := 2) (ret := (some .int)) (by decide) rfl ?_
  intro p e s m args below meth c s₁ B hml hv
  obtain ⟨ha, hsz, hP, hK, hN, hD0⟩ := hv
  subst ha
  have hx := B.exec
  have hb := B.bytes
  have hr := B.returns
  have hts := atoms_spec (ws := wsX4_open) B.pre
  have hown : s.vm.findClass RX4 = some m.cls := findClass_of_methodNamed B.named
  have hlocks := B.notSynchronized
  subst hsz
  have hD := hD0.self (sz := s.heap.size)
  generalize hAe : va_A (xw G h x wn wa w0 w1 rd wr z jj lt) s.heap.size = A at hD ⊢
  have hA : ∀ q : Nat, s.heap.size ≤ q → A q := fun q h => by rw [← hAe]; exact Or.inr h
  clear hAe hD0
  have hS : va_S A s.heap s.heap [] := va_S.rf
  have hiX4 : ∀ w ∈ wsX40, w ∈ wsX4_open := by decide +kernel
  have k10 := hts (.fieldLink RX4 10 "WovenHistory" "now" "LWovenHistory$Weave;") (List.mem_of_getElem? (i := 1) rfl)
  have k48 := hts (.fieldLink RX4 48 "WovenHistory" "opened" "Z") (List.mem_of_getElem? (i := 3) rfl)
  have hiX3 : ∀ w ∈ wsX30, w ∈ wsX4_open := by decide +kernel
  have k82 : (Cond.fieldLinkNest "WovenHistory" 82 "WovenHistory$Weave" "versions" "I" "WovenHistory").before _ s = true := va_Nw.use (A := ([.ref (h 0), .int a] : List Value).toArray) rfl (hN.1 ("WovenHistory", 82, "WovenHistory$Weave", "versions", "I") (List.mem_of_getElem? (i := 12) rfl))
  have k16 := hts (.fieldLink RX4 16 "WovenHistory" "aheadOfOpen" "LWovenHistory$Weave;") (List.mem_of_getElem? (i := 6) rfl)
  have hl := lv_entry ([.ref (h 0), .int a]) (n := 2) (Nat.le_of_ble_eq_true rfl)
  rw [lg_entry_eq]
  generalize (lg_sl ([.ref (h 0), .int a]) ++ List.replicate (2 - (lg_sl ([.ref (h 0), .int a])).length) Slot.unset).toArray = ls at hl ⊢
  have hl : lv_has ls 2 [(0, .ref (h 0)), (1, .int a)] := hl
  refine lv_iload_n hx hb dX4_open_0 rfl (lv_at hl 1 rfl) ?_
  refine lv_iconst (v := (-1 : Int32)) hx hb dX4_open_1 (by decide) ?_
  refine lv_icmp_eq (tgt := 19) hx hb dX4_open_2 (by decide) (fun c2 => ?_) (fun c2 => ?_)
  · skip
    refine lv_aload_n hx hb dX4_open_19 rfl (lv_at hl 0 rfl) ?_
    refine va_get (D := gD G) (ci := 4) (v := .int (x.1 7)) (C := RX4) (T := TX4) (N := 9) hx hb hts hiX4 hown hK hP 0 rfl rfl 7 (by decide) k48 (fun _ h9 => h9) rfl dX4_open_20 ?_
    refine lv_if_eq (tgt := 29) hx hb dX4_open_23 (by decide) (fun c23 => ?_) (fun c23 => ?_)
    · skip
      refine lv_aload_n hx hb dX4_open_29 rfl (lv_at hl 0 rfl) ?_
      refine va_get (D := gD G) (ci := 4) (v := .ref (h 10)) (C := RX4) (T := TX4) (N := 9) hx hb hts hiX4 hown hK hP 0 rfl rfl 0 (by decide) k10 (fun _ h9 => h9) rfl dX4_open_30 ?_
      refine va_getN (D := gD G) (ci := 3) (v := .int (wn.1 0)) (C := RX3) (T := TX3) (N := 9) hx hb hts hiX3 hown hK hP 3 rfl rfl 0 (by decide) k82 (fun _ h9 => h9) rfl dX4_open_33 ?_
      refine topE hnv ?_
      refine lv_bipush (v := nI 24) hx hb dX4_open_36 (by decide) ?_
      refine lv_icmp_lt (tgt := 44) hx hb dX4_open_38 (by decide) (fun c38 => ?_) (fun c38 => ?_)
      · skip
        have n38 : nv < 24 := (nI_ltI (a := nv) (b := 24) (by omega) (by omega)).mp c38
        refine lv_aload_n hx hb dX4_open_44 rfl (lv_at hl 0 rfl) ?_
        refine va_get (D := gD G) (ci := 4) (v := .ref (h 20)) (C := RX4) (T := TX4) (N := 9) hx hb hts hiX4 hown hK hP 0 rfl rfl 1 (by decide) k16 (fun _ h9 => h9) rfl dX4_open_45 ?_
        refine lv_aload_n hx hb dX4_open_48 rfl (lv_at hl 0 rfl) ?_
        refine va_get (D := gD G) (ci := 4) (v := .ref (h 10)) (C := RX4) (T := TX4) (N := 9) hx hb hts hiX4 hown hK hP 0 rfl rfl 0 (by decide) k10 (fun _ h9 => h9) rfl dX4_open_49 ?_
        refine cWv (As := [.ref (h 10)]) (rest := []) (S := oS × oS) (wa := xw G h x wn wa w0 w1 rd wr z jj lt) (wc := wb G (fun k => h (20 + k)) (fun k => h (10 + k)) wa wn) (w1 := fun v => wb G (fun k => h (20 + k)) (fun k => h (10 + k)) v.1 v.2) (wa' := fun v => xw G h x v.2 v.1 w0 w1 rd wr z jj lt) ⟨hx, hb, hml, hown, hts⟩ (mt_X3_become l G (fun k => h (20 + k)) _ wa wn (fun k => h (10 + k))) (cwV 1 hts gX4_open_X3_become rfl rfl rfl (by decide +kernel) ⟨Nat.le_of_ble_eq_true rfl, Nat.le_of_ble_eq_true rfl⟩) hK hN hP hD hS hA [11, 12, 13, 14, 15, 16, 17, 18, 3, 4, 5, 6, 7, 8, 9, 10] rfl (by decide) rfl (fun _ => rfl) (fun _ => rfl) (fun _ => rfl) 0 3 rfl rfl rfl hl.1 rfl (Nat.le_of_ble_eq_true rfl) ⟨Nat.zero_le _, Nat.zero_le _⟩ dX4_open_52 (fun u52 H locs hw52 hP hD hS => ?_)
        obtain ⟨w52, rfl, e52a, e52b⟩ := hw52
        have hP : PP G (xw G h x wn w52 w0 w1 rd wr z jj lt) H := hP
        have hD : va_D A (xw G h x wn w52 w0 w1 rd wr z jj lt) := hD
        refine lv_aload_n hx hb dX4_open_55 rfl (lv_at hl 0 rfl) ?_
        refine va_get (D := gD G) (ci := 4) (v := .ref (h 10)) (C := RX4) (T := TX4) (N := 9) hx hb hts hiX4 hown hK hP 0 rfl rfl 0 (by decide) k10 (fun _ h9 => h9) rfl dX4_open_56 ?_
        refine lv_iload_n hx hb dX4_open_59 rfl (lv_at hl 1 rfl) ?_
        refine lv_iconst (v := nI 0) hx hb dX4_open_60 (by decide) ?_
        refine lv_iconst (v := nI 0) hx hb dX4_open_61 (by decide) ?_
        refine cWv (As := [.int a, .int (nI 0), .int (nI 0)]) (rest := []) (S := oS) (wa := xw G h x wn w52 w0 w1 rd wr z jj lt) (wc := wv G (fun k => h (10 + k)) wn) (w1 := fun v => wv G (fun k => h (10 + k)) v) (wa' := fun v => xw G h x v w52 w0 w1 rd wr z jj lt) ⟨hx, hb, hml, hown, hts⟩ (mt_X3_beginVersion l G (fun k => h (10 + k)) _ wn nv a (nI 0) (nI 0) (hnv) (by first | assumption | omega)) (cwV 3 hts gX4_open_X3_beginVersion rfl rfl rfl (by decide +kernel) ⟨Nat.le_of_ble_eq_true rfl, Nat.le_of_ble_eq_true rfl⟩) hK hN hP hD hS hA [3, 4, 5, 6, 7, 8, 9, 10] rfl (by decide) rfl (fun _ => rfl) (fun _ => rfl) (fun _ => rfl) 0 3 rfl rfl rfl hl.1 rfl (Nat.le_of_ble_eq_true rfl) ⟨Nat.zero_le _, Nat.zero_le _⟩ dX4_open_62 (fun u62 H locs hw62 hP hD hS => ?_)
        have hR62 := hw62
        have hP : PP G (xw G h x u62 w52 w0 w1 rd wr z jj lt) H := hP
        have hD : va_D A (xw G h x u62 w52 w0 w1 rd wr z jj lt) := hD
        refine lv_aload_n hx hb dX4_open_65 rfl (lv_at hl 0 rfl) ?_
        refine lv_iconst (v := nI 1) hx hb dX4_open_66 (by decide) ?_
        refine va_put (D := gD G) (ci := 4) (v := .int (nI 1)) (ty := .boolean) (C := RX4) (T := TX4) (N := 9) hx hb hts hiX4 tyX4 tyX4_ok nmX4 hown hK hP hD hS 0 rfl rfl 7 (by decide) k48 (fun _ h9 => h9) rfl (by decide +kernel) (rfl) (rfl) (Nat.le_of_ble_eq_true rfl) dX4_open_67 (fun H locs hP hD hS => ?_)
        have hP : PP G (xw G h (oI x 7 (nI 1)) u62 w52 w0 w1 rd wr z jj lt) H := hP
        have hD : va_D A (xw G h (oI x 7 (nI 1)) u62 w52 w0 w1 rd wr z jj lt) := hD
        refine lv_aload_n hx hb dX4_open_70 rfl (lv_at hl 0 rfl) ?_
        refine va_get (D := gD G) (ci := 4) (v := .ref (h 10)) (C := RX4) (T := TX4) (N := 9) hx hb hts hiX4 hown hK hP 0 rfl rfl 0 (by decide) k10 (fun _ h9 => h9) rfl dX4_open_71 ?_
        refine va_getN (D := gD G) (ci := 3) (v := .int (u62.1 0)) (C := RX3) (T := TX3) (N := 9) hx hb hts hiX3 hown hK hP 3 rfl rfl 0 (by decide) k82 (fun _ h9 => h9) rfl dX4_open_74 ?_
        refine topE ((hR62.1 0 (by decide)).trans (hnv)) ?_
        exact W.iret (v := nI nv) hx hb hr (fun t ht hW => ⟨⟨nI nv, (oI x 7 (nI 1), u62, w52, w0, w1, rd, wr, z, jj, lt), rfl, ⟨_, _, _, _, _, _, _, _, _, _, rfl, ⟨nv, nl, (hR62.1 0 (by decide)).trans (hnv), by omega, (hR62.1 5 (by decide)).trans (hnl), by omega⟩, ⟨nv, nl, e52a.trans (hnv), by omega, e52b.trans (hnl), by omega⟩, ⟨nv0, nl0, hnv0, by omega, hnl0, by omega⟩, ⟨nv1, nl1, hnv1, by omega, hnl1, by omega⟩, rfl, rfl⟩, show PP G (xw G h (oI x 7 (nI 1)) u62 w52 w0 w1 rd wr z jj lt) t.heap by rw [ht]; exact hP⟩, hS.F ht⟩) hS.2.2 dX4_open_77
      · skip
        have n38 : ¬ (nv < 24) := fun q9 => c38 ((nI_ltI (a := nv) (b := 24) (by omega) (by omega)).mpr q9)
        refine lv_ldc (v := (-1000000004 : Int32)) hx hb hown (hts (.constant RX4 64 (-1000000004)) (List.mem_of_getElem? (i := 5) rfl)) dX4_open_41 ?_
        exact W.iret (v := (-1000000004 : Int32)) hx hb hr (fun t ht hW => ⟨⟨(-1000000004 : Int32), (x, wn, wa, w0, w1, rd, wr, z, jj, lt), rfl, ⟨_, _, _, _, _, _, _, _, _, _, rfl, ⟨nv, nl, hnv, by omega, hnl, by omega⟩, ⟨nva, nla, hnva, by omega, hnla, by omega⟩, ⟨nv0, nl0, hnv0, by omega, hnl0, by omega⟩, ⟨nv1, nl1, hnv1, by omega, hnl1, by omega⟩, rfl, rfl⟩, show PP G (xw G h x wn wa w0 w1 rd wr z jj lt) t.heap by rw [ht]; exact hP⟩, hS.F ht⟩) hS.2.2 dX4_open_43
    · skip
      refine lv_ldc (v := (-1000000003 : Int32)) hx hb hown (hts (.constant RX4 148 (-1000000003)) (List.mem_of_getElem? (i := 4) rfl)) dX4_open_26 ?_
      exact W.iret (v := (-1000000003 : Int32)) hx hb hr (fun t ht hW => ⟨⟨(-1000000003 : Int32), (x, wn, wa, w0, w1, rd, wr, z, jj, lt), rfl, ⟨_, _, _, _, _, _, _, _, _, _, rfl, ⟨nv, nl, hnv, by omega, hnl, by omega⟩, ⟨nva, nla, hnva, by omega, hnla, by omega⟩, ⟨nv0, nl0, hnv0, by omega, hnl0, by omega⟩, ⟨nv1, nl1, hnv1, by omega, hnl1, by omega⟩, rfl, rfl⟩, show PP G (xw G h x wn wa w0 w1 rd wr z jj lt) t.heap by rw [ht]; exact hP⟩, hS.F ht⟩) hS.2.2 dX4_open_28
  · skip
    refine lv_aload_n hx hb dX4_open_5 rfl (lv_at hl 0 rfl) ?_
    refine va_get (D := gD G) (ci := 4) (v := .ref (h 10)) (C := RX4) (T := TX4) (N := 9) hx hb hts hiX4 hown hK hP 0 rfl rfl 0 (by decide) k10 (fun _ h9 => h9) rfl dX4_open_6 ?_
    refine lv_iload_n hx hb dX4_open_9 rfl (lv_at hl 1 rfl) ?_
    refine cRi (w := wv G (fun k => h (10 + k)) wn) (As := [.int a]) (rest := []) ⟨hx, hb, hml, hown, hts⟩ (mt_X3_hasVersion l G (fun k => h (10 + k)) wn nv a (hnv) (by first | assumption | omega)) (cwV 1 hts gX4_open_X3_hasVersion rfl rfl rfl (by decide +kernel) ⟨Nat.le_of_ble_eq_true rfl, Nat.le_of_ble_eq_true rfl⟩) hK hN (hP.sub [3, 4, 5, 6, 7, 8, 9, 10] rfl) 0 3 rfl rfl rfl hl.1 rfl (Nat.le_of_ble_eq_true rfl) ⟨Nat.zero_le _, Nat.zero_le _⟩ dX4_open_10 (fun r10 hw10 => ?_)
    rcases hw10 with ⟨rfl, j10, hj10, ej10⟩ | ⟨rfl, hn10⟩
    · skip
      refine lv_if_ne (tgt := 19) hx hb dX4_open_13 (by decide) (fun _ => ?_) (fun c9 => absurd c9 (by decide))
      refine lv_aload_n hx hb dX4_open_19 rfl (lv_at hl 0 rfl) ?_
      refine va_get (D := gD G) (ci := 4) (v := .int (x.1 7)) (C := RX4) (T := TX4) (N := 9) hx hb hts hiX4 hown hK hP 0 rfl rfl 7 (by decide) k48 (fun _ h9 => h9) rfl dX4_open_20 ?_
      refine lv_if_eq (tgt := 29) hx hb dX4_open_23 (by decide) (fun c23 => ?_) (fun c23 => ?_)
      · skip
        refine lv_aload_n hx hb dX4_open_29 rfl (lv_at hl 0 rfl) ?_
        refine va_get (D := gD G) (ci := 4) (v := .ref (h 10)) (C := RX4) (T := TX4) (N := 9) hx hb hts hiX4 hown hK hP 0 rfl rfl 0 (by decide) k10 (fun _ h9 => h9) rfl dX4_open_30 ?_
        refine va_getN (D := gD G) (ci := 3) (v := .int (wn.1 0)) (C := RX3) (T := TX3) (N := 9) hx hb hts hiX3 hown hK hP 3 rfl rfl 0 (by decide) k82 (fun _ h9 => h9) rfl dX4_open_33 ?_
        refine topE hnv ?_
        refine lv_bipush (v := nI 24) hx hb dX4_open_36 (by decide) ?_
        refine lv_icmp_lt (tgt := 44) hx hb dX4_open_38 (by decide) (fun c38 => ?_) (fun c38 => ?_)
        · skip
          have n38 : nv < 24 := (nI_ltI (a := nv) (b := 24) (by omega) (by omega)).mp c38
          refine lv_aload_n hx hb dX4_open_44 rfl (lv_at hl 0 rfl) ?_
          refine va_get (D := gD G) (ci := 4) (v := .ref (h 20)) (C := RX4) (T := TX4) (N := 9) hx hb hts hiX4 hown hK hP 0 rfl rfl 1 (by decide) k16 (fun _ h9 => h9) rfl dX4_open_45 ?_
          refine lv_aload_n hx hb dX4_open_48 rfl (lv_at hl 0 rfl) ?_
          refine va_get (D := gD G) (ci := 4) (v := .ref (h 10)) (C := RX4) (T := TX4) (N := 9) hx hb hts hiX4 hown hK hP 0 rfl rfl 0 (by decide) k10 (fun _ h9 => h9) rfl dX4_open_49 ?_
          refine cWv (As := [.ref (h 10)]) (rest := []) (S := oS × oS) (wa := xw G h x wn wa w0 w1 rd wr z jj lt) (wc := wb G (fun k => h (20 + k)) (fun k => h (10 + k)) wa wn) (w1 := fun v => wb G (fun k => h (20 + k)) (fun k => h (10 + k)) v.1 v.2) (wa' := fun v => xw G h x v.2 v.1 w0 w1 rd wr z jj lt) ⟨hx, hb, hml, hown, hts⟩ (mt_X3_become l G (fun k => h (20 + k)) _ wa wn (fun k => h (10 + k))) (cwV 1 hts gX4_open_X3_become rfl rfl rfl (by decide +kernel) ⟨Nat.le_of_ble_eq_true rfl, Nat.le_of_ble_eq_true rfl⟩) hK hN hP hD hS hA [11, 12, 13, 14, 15, 16, 17, 18, 3, 4, 5, 6, 7, 8, 9, 10] rfl (by decide) rfl (fun _ => rfl) (fun _ => rfl) (fun _ => rfl) 0 3 rfl rfl rfl hl.1 rfl (Nat.le_of_ble_eq_true rfl) ⟨Nat.zero_le _, Nat.zero_le _⟩ dX4_open_52 (fun u52 H locs hw52 hP hD hS => ?_)
          obtain ⟨w52, rfl, e52a, e52b⟩ := hw52
          have hP : PP G (xw G h x wn w52 w0 w1 rd wr z jj lt) H := hP
          have hD : va_D A (xw G h x wn w52 w0 w1 rd wr z jj lt) := hD
          refine lv_aload_n hx hb dX4_open_55 rfl (lv_at hl 0 rfl) ?_
          refine va_get (D := gD G) (ci := 4) (v := .ref (h 10)) (C := RX4) (T := TX4) (N := 9) hx hb hts hiX4 hown hK hP 0 rfl rfl 0 (by decide) k10 (fun _ h9 => h9) rfl dX4_open_56 ?_
          refine lv_iload_n hx hb dX4_open_59 rfl (lv_at hl 1 rfl) ?_
          refine lv_iconst (v := nI 0) hx hb dX4_open_60 (by decide) ?_
          refine lv_iconst (v := nI 0) hx hb dX4_open_61 (by decide) ?_
          refine cWv (As := [.int a, .int (nI 0), .int (nI 0)]) (rest := []) (S := oS) (wa := xw G h x wn w52 w0 w1 rd wr z jj lt) (wc := wv G (fun k => h (10 + k)) wn) (w1 := fun v => wv G (fun k => h (10 + k)) v) (wa' := fun v => xw G h x v w52 w0 w1 rd wr z jj lt) ⟨hx, hb, hml, hown, hts⟩ (mt_X3_beginVersion l G (fun k => h (10 + k)) _ wn nv a (nI 0) (nI 0) (hnv) (by first | assumption | omega)) (cwV 3 hts gX4_open_X3_beginVersion rfl rfl rfl (by decide +kernel) ⟨Nat.le_of_ble_eq_true rfl, Nat.le_of_ble_eq_true rfl⟩) hK hN hP hD hS hA [3, 4, 5, 6, 7, 8, 9, 10] rfl (by decide) rfl (fun _ => rfl) (fun _ => rfl) (fun _ => rfl) 0 3 rfl rfl rfl hl.1 rfl (Nat.le_of_ble_eq_true rfl) ⟨Nat.zero_le _, Nat.zero_le _⟩ dX4_open_62 (fun u62 H locs hw62 hP hD hS => ?_)
          have hR62 := hw62
          have hP : PP G (xw G h x u62 w52 w0 w1 rd wr z jj lt) H := hP
          have hD : va_D A (xw G h x u62 w52 w0 w1 rd wr z jj lt) := hD
          refine lv_aload_n hx hb dX4_open_65 rfl (lv_at hl 0 rfl) ?_
          refine lv_iconst (v := nI 1) hx hb dX4_open_66 (by decide) ?_
          refine va_put (D := gD G) (ci := 4) (v := .int (nI 1)) (ty := .boolean) (C := RX4) (T := TX4) (N := 9) hx hb hts hiX4 tyX4 tyX4_ok nmX4 hown hK hP hD hS 0 rfl rfl 7 (by decide) k48 (fun _ h9 => h9) rfl (by decide +kernel) (rfl) (rfl) (Nat.le_of_ble_eq_true rfl) dX4_open_67 (fun H locs hP hD hS => ?_)
          have hP : PP G (xw G h (oI x 7 (nI 1)) u62 w52 w0 w1 rd wr z jj lt) H := hP
          have hD : va_D A (xw G h (oI x 7 (nI 1)) u62 w52 w0 w1 rd wr z jj lt) := hD
          refine lv_aload_n hx hb dX4_open_70 rfl (lv_at hl 0 rfl) ?_
          refine va_get (D := gD G) (ci := 4) (v := .ref (h 10)) (C := RX4) (T := TX4) (N := 9) hx hb hts hiX4 hown hK hP 0 rfl rfl 0 (by decide) k10 (fun _ h9 => h9) rfl dX4_open_71 ?_
          refine va_getN (D := gD G) (ci := 3) (v := .int (u62.1 0)) (C := RX3) (T := TX3) (N := 9) hx hb hts hiX3 hown hK hP 3 rfl rfl 0 (by decide) k82 (fun _ h9 => h9) rfl dX4_open_74 ?_
          refine topE ((hR62.1 0 (by decide)).trans (hnv)) ?_
          exact W.iret (v := nI nv) hx hb hr (fun t ht hW => ⟨⟨nI nv, (oI x 7 (nI 1), u62, w52, w0, w1, rd, wr, z, jj, lt), rfl, ⟨_, _, _, _, _, _, _, _, _, _, rfl, ⟨nv, nl, (hR62.1 0 (by decide)).trans (hnv), by omega, (hR62.1 5 (by decide)).trans (hnl), by omega⟩, ⟨nv, nl, e52a.trans (hnv), by omega, e52b.trans (hnl), by omega⟩, ⟨nv0, nl0, hnv0, by omega, hnl0, by omega⟩, ⟨nv1, nl1, hnv1, by omega, hnl1, by omega⟩, rfl, rfl⟩, show PP G (xw G h (oI x 7 (nI 1)) u62 w52 w0 w1 rd wr z jj lt) t.heap by rw [ht]; exact hP⟩, hS.F ht⟩) hS.2.2 dX4_open_77
        · skip
          have n38 : ¬ (nv < 24) := fun q9 => c38 ((nI_ltI (a := nv) (b := 24) (by omega) (by omega)).mpr q9)
          refine lv_ldc (v := (-1000000004 : Int32)) hx hb hown (hts (.constant RX4 64 (-1000000004)) (List.mem_of_getElem? (i := 5) rfl)) dX4_open_41 ?_
          exact W.iret (v := (-1000000004 : Int32)) hx hb hr (fun t ht hW => ⟨⟨(-1000000004 : Int32), (x, wn, wa, w0, w1, rd, wr, z, jj, lt), rfl, ⟨_, _, _, _, _, _, _, _, _, _, rfl, ⟨nv, nl, hnv, by omega, hnl, by omega⟩, ⟨nva, nla, hnva, by omega, hnla, by omega⟩, ⟨nv0, nl0, hnv0, by omega, hnl0, by omega⟩, ⟨nv1, nl1, hnv1, by omega, hnl1, by omega⟩, rfl, rfl⟩, show PP G (xw G h x wn wa w0 w1 rd wr z jj lt) t.heap by rw [ht]; exact hP⟩, hS.F ht⟩) hS.2.2 dX4_open_43
      · skip
        refine lv_ldc (v := (-1000000003 : Int32)) hx hb hown (hts (.constant RX4 148 (-1000000003)) (List.mem_of_getElem? (i := 4) rfl)) dX4_open_26 ?_
        exact W.iret (v := (-1000000003 : Int32)) hx hb hr (fun t ht hW => ⟨⟨(-1000000003 : Int32), (x, wn, wa, w0, w1, rd, wr, z, jj, lt), rfl, ⟨_, _, _, _, _, _, _, _, _, _, rfl, ⟨nv, nl, hnv, by omega, hnl, by omega⟩, ⟨nva, nla, hnva, by omega, hnla, by omega⟩, ⟨nv0, nl0, hnv0, by omega, hnl0, by omega⟩, ⟨nv1, nl1, hnv1, by omega, hnl1, by omega⟩, rfl, rfl⟩, show PP G (xw G h x wn wa w0 w1 rd wr z jj lt) t.heap by rw [ht]; exact hP⟩, hS.F ht⟩) hS.2.2 dX4_open_28
    · skip
      refine lv_if_ne (tgt := 19) hx hb dX4_open_13 (by decide) (fun c9 => absurd (by decide) c9) (fun _ => ?_)
      refine lv_ldc (v := (-1000000001 : Int32)) hx hb hown (hts (.constant RX4 110 (-1000000001)) (List.mem_of_getElem? (i := 2) rfl)) dX4_open_16 ?_
      exact W.iret (v := (-1000000001 : Int32)) hx hb hr (fun t ht hW => ⟨⟨(-1000000001 : Int32), (x, wn, wa, w0, w1, rd, wr, z, jj, lt), rfl, ⟨_, _, _, _, _, _, _, _, _, _, rfl, ⟨nv, nl, hnv, by omega, hnl, by omega⟩, ⟨nva, nla, hnva, by omega, hnla, by omega⟩, ⟨nv0, nl0, hnv0, by omega, hnl0, by omega⟩, ⟨nv1, nl1, hnv1, by omega, hnl1, by omega⟩, rfl, rfl⟩, show PP G (xw G h x wn wa w0 w1 rd wr z jj lt) t.heap by rw [ht]; exact hP⟩, hS.F ht⟩) hS.2.2 dX4_open_18
set_option maxHeartbeats 1000000 in
set_option maxRecDepth 100000 in
theorem mt_X4_include (l : Launch) (G : gG) (h : Nat → Nat) (sz : Nat) (x : oS) (wn : oS) (wa : oS) (w0 : oS) (w1 : oS) (rd : oS) (wr : oS) (z : oS) (jj : Nat → Nat → Int64) (lt : Int64) (nv : Nat) (nl : Nat) (nva : Nat) (nla : Nat) (nv0 : Nat) (nl0 : Nat) (nv1 : Nat) (nl1 : Nat) (len : Nat) (a : Int32) (hnv : wn.1 0 = nI nv) (hnl : wn.1 5 = nI nl) (hnva : wa.1 0 = nI nva) (hnla : wa.1 5 = nI nla) (hnv0 : w0.1 0 = nI nv0) (hnl0 : w0.1 5 = nI nl0) (hnv1 : w1.1 0 = nI nv1) (hnl1 : w1.1 5 = nI nl1) (hlen : rd.1 1 = nI len) (hnv24 : nv ≤ 24) (hnl120 : nl ≤ 120) (hva24 : nva ≤ 24) (hla120 : nla ≤ 120) (hv024 : nv0 ≤ 24) (hl0120 : nl0 ≤ 120) (hv124 : nv1 ≤ 24) (hl1120 : nl1 ≤ 120) (hl240 : len ≤ 240) (hsz : ∀ j, j < 4 → z.2 1 j = -1 ∨ ∃ q, q ≤ 40 ∧ z.2 1 j = nI q) : Met l yX4_include wsX4_include ({ frames := 4, cells := 0, slots := 0, locals := 87 }) (preW G (xw G h x wn wa w0 w1 rd wr z jj lt) sz [.ref (h 0), .int a]) (va_Qi (fun (r : Int32) (v : oS × oS × oS × oS × oS × oS × oS × oS × (Nat → Nat → Int64) × Int64) => XQ rd z v) (fun v t => PP G (xw G h v.1 v.2.1 v.2.2.1 v.2.2.2.1 v.2.2.2.2.1 v.2.2.2.2.2.1 v.2.2.2.2.2.2.1 v.2.2.2.2.2.2.2.1 v.2.2.2.2.2.2.2.2.1 v.2.2.2.2.2.2.2.2.2) t.heap) (va_A (xw G h x wn wa w0 w1 rd wr z jj lt) sz)) 0 0 (va_A (xw G h x wn wa w0 w1 rd wr z jj lt) sz) := by
  refine Met.ofW (cc := cX4_include) (maxL := 2) (ret := (some .int)) (by decide) rfl ?_
  intro p e s m args below meth c s₁ B hml hv
  obtain ⟨ha, hsz, hP, hK, hN, hD0⟩ := hv
  subst ha
  have hx := B.exec
  have hb := B.bytes
  have hr := B.returns
  have hts := atoms_spec (ws := wsX4_include) B.pre
  have hown : s.vm.findClass RX4 = some m.cls := findClass_of_methodNamed B.named
  have hlocks := B.notSynchronized
  subst hsz
  have hD := hD0.self (sz := s.heap.size)
  generalize hAe : va_A (xw G h x wn wa w0 w1 rd wr z jj lt) s.heap.size = A at hD ⊢
  have hA : ∀ q : Nat, s.heap.size ≤ q → A q := fun q h => by rw [← hAe]; exact Or.inr h
  clear hAe hD0
  have hS : va_S A s.heap s.heap [] := va_S.rf
  have hiX4 : ∀ w ∈ wsX40, w ∈ wsX4_include := by decide +kernel
  have k10 := hts (.fieldLink RX4 10 "WovenHistory" "now" "LWovenHistory$Weave;") (List.mem_of_getElem? (i := 1) rfl)
  have k48 := hts (.fieldLink RX4 48 "WovenHistory" "opened" "Z") (List.mem_of_getElem? (i := 3) rfl)
  have hl := lv_entry ([.ref (h 0), .int a]) (n := 2) (Nat.le_of_ble_eq_true rfl)
  rw [lg_entry_eq]
  generalize (lg_sl ([.ref (h 0), .int a]) ++ List.replicate (2 - (lg_sl ([.ref (h 0), .int a])).length) Slot.unset).toArray = ls at hl ⊢
  have hl : lv_has ls 2 [(0, .ref (h 0)), (1, .int a)] := hl
  refine lv_aload_n hx hb dX4_include_0 rfl (lv_at hl 0 rfl) ?_
  refine va_get (D := gD G) (ci := 4) (v := .ref (h 10)) (C := RX4) (T := TX4) (N := 9) hx hb hts hiX4 hown hK hP 0 rfl rfl 0 (by decide) k10 (fun _ h9 => h9) rfl dX4_include_1 ?_
  refine lv_iload_n hx hb dX4_include_4 rfl (lv_at hl 1 rfl) ?_
  refine cRi (w := wv G (fun k => h (10 + k)) wn) (As := [.int a]) (rest := []) ⟨hx, hb, hml, hown, hts⟩ (mt_X3_hasVersion l G (fun k => h (10 + k)) wn nv a (hnv) (by first | assumption | omega)) (cwV 1 hts gX4_include_X3_hasVersion rfl rfl rfl (by decide +kernel) ⟨Nat.le_of_ble_eq_true rfl, Nat.le_of_ble_eq_true rfl⟩) hK hN (hP.sub [3, 4, 5, 6, 7, 8, 9, 10] rfl) 0 3 rfl rfl rfl hl.1 rfl (Nat.le_of_ble_eq_true rfl) ⟨Nat.zero_le _, Nat.zero_le _⟩ dX4_include_5 (fun r5 hw5 => ?_)
  rcases hw5 with ⟨rfl, j5, hj5, ej5⟩ | ⟨rfl, hn5⟩
  · skip
    refine lv_if_ne (tgt := 14) hx hb dX4_include_8 (by decide) (fun _ => ?_) (fun c9 => absurd c9 (by decide))
    refine lv_aload_n hx hb dX4_include_14 rfl (lv_at hl 0 rfl) ?_
    refine va_get (D := gD G) (ci := 4) (v := .int (x.1 7)) (C := RX4) (T := TX4) (N := 9) hx hb hts hiX4 hown hK hP 0 rfl rfl 7 (by decide) k48 (fun _ h9 => h9) rfl dX4_include_15 ?_
    refine lv_if_eq (tgt := 32) hx hb dX4_include_18 (by decide) (fun c18 => ?_) (fun c18 => ?_)
    · skip
      refine lv_ldc (v := (-1000000003 : Int32)) hx hb hown (hts (.constant RX4 148 (-1000000003)) (List.mem_of_getElem? (i := 4) rfl)) dX4_include_32 ?_
      exact W.iret (v := (-1000000003 : Int32)) hx hb hr (fun t ht hW => ⟨⟨(-1000000003 : Int32), (x, wn, wa, w0, w1, rd, wr, z, jj, lt), rfl, ⟨_, _, _, _, _, _, _, _, _, _, rfl, ⟨nv, nl, hnv, by omega, hnl, by omega⟩, ⟨nva, nla, hnva, by omega, hnla, by omega⟩, ⟨nv0, nl0, hnv0, by omega, hnl0, by omega⟩, ⟨nv1, nl1, hnv1, by omega, hnl1, by omega⟩, rfl, rfl⟩, show PP G (xw G h x wn wa w0 w1 rd wr z jj lt) t.heap by rw [ht]; exact hP⟩, hS.F ht⟩) hS.2.2 dX4_include_34
    · skip
      refine lv_aload_n hx hb dX4_include_21 rfl (lv_at hl 0 rfl) ?_
      refine cRi (w := xw G h x wn wa w0 w1 rd wr z jj lt) (As := []) (rest := []) ⟨hx, hb, hml, hown, hts⟩ (mt_X4_openChanges l G h x wn wa w0 w1 rd wr z jj lt nv nl (hnv) (hnl) (by first | assumption | omega) (by first | assumption | omega)) (cwV 0 hts gX4_include_X4_openChanges rfl rfl rfl (by decide +kernel) ⟨Nat.le_of_ble_eq_true rfl, Nat.le_of_ble_eq_true rfl⟩) hK hN hP 0 4 rfl rfl rfl hl.1 rfl (Nat.le_of_ble_eq_true rfl) ⟨Nat.zero_le _, Nat.zero_le _⟩ dX4_include_22 (fun r22 hw22 => ?_)
      refine lv_iload_n hx hb dX4_include_25 rfl (lv_at hl 1 rfl) ?_
      refine cSi (As := [.int r22, .int a]) (rest := []) ⟨hx, hb, hml, hown, hts⟩ (mt_X3_holds l r22 a) (va_cwS 2 hts gX4_include_X3_holds rfl rfl rfl (by decide +kernel) ⟨Nat.le_of_ble_eq_true rfl, Nat.le_of_ble_eq_true rfl⟩) rfl hl.1 rfl (Nat.le_of_ble_eq_true rfl) ⟨Nat.zero_le _, Nat.zero_le _⟩ dX4_include_26 (fun r26 hw26 => ?_)
      rcases hw26 with rfl | rfl
      · skip
        refine lv_if_eq (tgt := 35) hx hb dX4_include_29 (by decide) (fun c9 => absurd c9 (by decide)) (fun _ => ?_)
        refine lv_ldc (v := (-1000000003 : Int32)) hx hb hown (hts (.constant RX4 148 (-1000000003)) (List.mem_of_getElem? (i := 4) rfl)) dX4_include_32 ?_
        exact W.iret (v := (-1000000003 : Int32)) hx hb hr (fun t ht hW => ⟨⟨(-1000000003 : Int32), (x, wn, wa, w0, w1, rd, wr, z, jj, lt), rfl, ⟨_, _, _, _, _, _, _, _, _, _, rfl, ⟨nv, nl, hnv, by omega, hnl, by omega⟩, ⟨nva, nla, hnva, by omega, hnla, by omega⟩, ⟨nv0, nl0, hnv0, by omega, hnl0, by omega⟩, ⟨nv1, nl1, hnv1, by omega, hnl1, by omega⟩, rfl, rfl⟩, show PP G (xw G h x wn wa w0 w1 rd wr z jj lt) t.heap by rw [ht]; exact hP⟩, hS.F ht⟩) hS.2.2 dX4_include_34
      · skip
        refine lv_if_eq (tgt := 35) hx hb dX4_include_29 (by decide) (fun _ => ?_) (fun c9 => absurd (by decide) c9)
        refine lv_aload_n hx hb dX4_include_35 rfl (lv_at hl 0 rfl) ?_
        refine va_get (D := gD G) (ci := 4) (v := .ref (h 10)) (C := RX4) (T := TX4) (N := 9) hx hb hts hiX4 hown hK hP 0 rfl rfl 0 (by decide) k10 (fun _ h9 => h9) rfl dX4_include_36 ?_
        refine lv_iload_n hx hb dX4_include_39 rfl (lv_at hl 1 rfl) ?_
        refine cWv (As := [.int a]) (rest := []) (S := oS) (wa := xw G h x wn wa w0 w1 rd wr z jj lt) (wc := wv G (fun k => h (10 + k)) wn) (w1 := fun v => wv G (fun k => h (10 + k)) v) (wa' := fun v => xw G h x v wa w0 w1 rd wr z jj lt) ⟨hx, hb, hml, hown, hts⟩ (mt_X3_includeInNext l G (fun k => h (10 + k)) _ wn nv a (hnv) (by first | assumption | omega)) (cwV 1 hts gX4_include_X3_includeInNext rfl rfl rfl (by decide +kernel) ⟨Nat.le_of_ble_eq_true rfl, Nat.le_of_ble_eq_true rfl⟩) hK hN hP hD hS hA [3, 4, 5, 6, 7, 8, 9, 10] rfl (by decide) rfl (fun _ => rfl) (fun _ => rfl) (fun _ => rfl) 0 3 rfl rfl rfl hl.1 rfl (Nat.le_of_ble_eq_true rfl) ⟨Nat.zero_le _, Nat.zero_le _⟩ dX4_include_40 (fun u40 H locs hw40 hP hD hS => ?_)
        have hR40 := hw40
        have hP : PP G (xw G h x u40 wa w0 w1 rd wr z jj lt) H := hP
        have hD : va_D A (xw G h x u40 wa w0 w1 rd wr z jj lt) := hD
        refine lv_aload_n hx hb dX4_include_43 rfl (lv_at hl 0 rfl) ?_
        refine cRi (w := xw G h x u40 wa w0 w1 rd wr z jj lt) (As := []) (rest := []) ⟨hx, hb, hml, hown, hts⟩ (mt_X4_openLines l G h x u40 wa w0 w1 rd wr z jj lt nv nl ((hR40.1 0 (by decide)).trans (hnv)) ((hR40.1 5 (by decide)).trans (hnl)) (by first | assumption | omega) (by first | assumption | omega)) (cwV 0 hts gX4_include_X4_openLines rfl rfl rfl (by decide +kernel) ⟨Nat.le_of_ble_eq_true rfl, Nat.le_of_ble_eq_true rfl⟩) hK hN hP 0 4 rfl rfl rfl hl.1 rfl (Nat.le_of_ble_eq_true rfl) ⟨Nat.zero_le _, Nat.zero_le _⟩ dX4_include_44 (fun r44 hw44 => ?_)
        obtain ⟨n44, hn44, rfl⟩ := hw44
        exact W.iret (v := nI (n44)) hx hb hr (fun t ht hW => ⟨⟨nI (n44), (x, u40, wa, w0, w1, rd, wr, z, jj, lt), rfl, ⟨_, _, _, _, _, _, _, _, _, _, rfl, ⟨nv, nl, (hR40.1 0 (by decide)).trans (hnv), by omega, (hR40.1 5 (by decide)).trans (hnl), by omega⟩, ⟨nva, nla, hnva, by omega, hnla, by omega⟩, ⟨nv0, nl0, hnv0, by omega, hnl0, by omega⟩, ⟨nv1, nl1, hnv1, by omega, hnl1, by omega⟩, rfl, rfl⟩, show PP G (xw G h x u40 wa w0 w1 rd wr z jj lt) t.heap by rw [ht]; exact hP⟩, hS.F ht⟩) hS.2.2 dX4_include_47
  · skip
    refine lv_if_ne (tgt := 14) hx hb dX4_include_8 (by decide) (fun c9 => absurd (by decide) c9) (fun _ => ?_)
    refine lv_ldc (v := (-1000000001 : Int32)) hx hb hown (hts (.constant RX4 110 (-1000000001)) (List.mem_of_getElem? (i := 2) rfl)) dX4_include_11 ?_
    exact W.iret (v := (-1000000001 : Int32)) hx hb hr (fun t ht hW => ⟨⟨(-1000000001 : Int32), (x, wn, wa, w0, w1, rd, wr, z, jj, lt), rfl, ⟨_, _, _, _, _, _, _, _, _, _, rfl, ⟨nv, nl, hnv, by omega, hnl, by omega⟩, ⟨nva, nla, hnva, by omega, hnla, by omega⟩, ⟨nv0, nl0, hnv0, by omega, hnl0, by omega⟩, ⟨nv1, nl1, hnv1, by omega, hnl1, by omega⟩, rfl, rfl⟩, show PP G (xw G h x wn wa w0 w1 rd wr z jj lt) t.heap by rw [ht]; exact hP⟩, hS.F ht⟩) hS.2.2 dX4_include_13
set_option maxHeartbeats 1000000 in
set_option maxRecDepth 100000 in
theorem mt_X4_exclude (l : Launch) (G : gG) (h : Nat → Nat) (sz : Nat) (x : oS) (wn : oS) (wa : oS) (w0 : oS) (w1 : oS) (rd : oS) (wr : oS) (z : oS) (jj : Nat → Nat → Int64) (lt : Int64) (nv : Nat) (nl : Nat) (nva : Nat) (nla : Nat) (nv0 : Nat) (nl0 : Nat) (nv1 : Nat) (nl1 : Nat) (len : Nat) (a : Int32) (hnv : wn.1 0 = nI nv) (hnl : wn.1 5 = nI nl) (hnva : wa.1 0 = nI nva) (hnla : wa.1 5 = nI nla) (hnv0 : w0.1 0 = nI nv0) (hnl0 : w0.1 5 = nI nl0) (hnv1 : w1.1 0 = nI nv1) (hnl1 : w1.1 5 = nI nl1) (hlen : rd.1 1 = nI len) (hnv24 : nv ≤ 24) (hnl120 : nl ≤ 120) (hva24 : nva ≤ 24) (hla120 : nla ≤ 120) (hv024 : nv0 ≤ 24) (hl0120 : nl0 ≤ 120) (hv124 : nv1 ≤ 24) (hl1120 : nl1 ≤ 120) (hl240 : len ≤ 240) (hsz : ∀ j, j < 4 → z.2 1 j = -1 ∨ ∃ q, q ≤ 40 ∧ z.2 1 j = nI q) : Met l yX4_exclude wsX4_exclude ({ frames := 4, cells := 0, slots := 0, locals := 87 }) (preW G (xw G h x wn wa w0 w1 rd wr z jj lt) sz [.ref (h 0), .int a]) (va_Qi (fun (r : Int32) (v : oS × oS × oS × oS × oS × oS × oS × oS × (Nat → Nat → Int64) × Int64) => XQ rd z v) (fun v t => PP G (xw G h v.1 v.2.1 v.2.2.1 v.2.2.2.1 v.2.2.2.2.1 v.2.2.2.2.2.1 v.2.2.2.2.2.2.1 v.2.2.2.2.2.2.2.1 v.2.2.2.2.2.2.2.2.1 v.2.2.2.2.2.2.2.2.2) t.heap) (va_A (xw G h x wn wa w0 w1 rd wr z jj lt) sz)) 0 0 (va_A (xw G h x wn wa w0 w1 rd wr z jj lt) sz) := by
  refine Met.ofW (cc := cX4_exclude) (maxL := 2) (ret := (some .int)) (by decide) rfl ?_
  intro p e s m args below meth c s₁ B hml hv
  obtain ⟨ha, hsz, hP, hK, hN, hD0⟩ := hv
  subst ha
  have hx := B.exec
  have hb := B.bytes
  have hr := B.returns
  have hts := atoms_spec (ws := wsX4_exclude) B.pre
  have hown : s.vm.findClass RX4 = some m.cls := findClass_of_methodNamed B.named
  have hlocks := B.notSynchronized
  subst hsz
  have hD := hD0.self (sz := s.heap.size)
  generalize hAe : va_A (xw G h x wn wa w0 w1 rd wr z jj lt) s.heap.size = A at hD ⊢
  have hA : ∀ q : Nat, s.heap.size ≤ q → A q := fun q h => by rw [← hAe]; exact Or.inr h
  clear hAe hD0
  have hS : va_S A s.heap s.heap [] := va_S.rf
  have hiX4 : ∀ w ∈ wsX40, w ∈ wsX4_exclude := by decide +kernel
  have k10 := hts (.fieldLink RX4 10 "WovenHistory" "now" "LWovenHistory$Weave;") (List.mem_of_getElem? (i := 1) rfl)
  have k48 := hts (.fieldLink RX4 48 "WovenHistory" "opened" "Z") (List.mem_of_getElem? (i := 3) rfl)
  have hl := lv_entry ([.ref (h 0), .int a]) (n := 2) (Nat.le_of_ble_eq_true rfl)
  rw [lg_entry_eq]
  generalize (lg_sl ([.ref (h 0), .int a]) ++ List.replicate (2 - (lg_sl ([.ref (h 0), .int a])).length) Slot.unset).toArray = ls at hl ⊢
  have hl : lv_has ls 2 [(0, .ref (h 0)), (1, .int a)] := hl
  refine lv_aload_n hx hb dX4_exclude_0 rfl (lv_at hl 0 rfl) ?_
  refine va_get (D := gD G) (ci := 4) (v := .ref (h 10)) (C := RX4) (T := TX4) (N := 9) hx hb hts hiX4 hown hK hP 0 rfl rfl 0 (by decide) k10 (fun _ h9 => h9) rfl dX4_exclude_1 ?_
  refine lv_iload_n hx hb dX4_exclude_4 rfl (lv_at hl 1 rfl) ?_
  refine cRi (w := wv G (fun k => h (10 + k)) wn) (As := [.int a]) (rest := []) ⟨hx, hb, hml, hown, hts⟩ (mt_X3_hasVersion l G (fun k => h (10 + k)) wn nv a (hnv) (by first | assumption | omega)) (cwV 1 hts gX4_exclude_X3_hasVersion rfl rfl rfl (by decide +kernel) ⟨Nat.le_of_ble_eq_true rfl, Nat.le_of_ble_eq_true rfl⟩) hK hN (hP.sub [3, 4, 5, 6, 7, 8, 9, 10] rfl) 0 3 rfl rfl rfl hl.1 rfl (Nat.le_of_ble_eq_true rfl) ⟨Nat.zero_le _, Nat.zero_le _⟩ dX4_exclude_5 (fun r5 hw5 => ?_)
  rcases hw5 with ⟨rfl, j5, hj5, ej5⟩ | ⟨rfl, hn5⟩
  · skip
    refine lv_if_ne (tgt := 14) hx hb dX4_exclude_8 (by decide) (fun _ => ?_) (fun c9 => absurd c9 (by decide))
    refine lv_aload_n hx hb dX4_exclude_14 rfl (lv_at hl 0 rfl) ?_
    refine va_get (D := gD G) (ci := 4) (v := .int (x.1 7)) (C := RX4) (T := TX4) (N := 9) hx hb hts hiX4 hown hK hP 0 rfl rfl 7 (by decide) k48 (fun _ h9 => h9) rfl dX4_exclude_15 ?_
    refine lv_if_eq (tgt := 32) hx hb dX4_exclude_18 (by decide) (fun c18 => ?_) (fun c18 => ?_)
    · skip
      refine lv_ldc (v := (-1000000003 : Int32)) hx hb hown (hts (.constant RX4 148 (-1000000003)) (List.mem_of_getElem? (i := 4) rfl)) dX4_exclude_32 ?_
      exact W.iret (v := (-1000000003 : Int32)) hx hb hr (fun t ht hW => ⟨⟨(-1000000003 : Int32), (x, wn, wa, w0, w1, rd, wr, z, jj, lt), rfl, ⟨_, _, _, _, _, _, _, _, _, _, rfl, ⟨nv, nl, hnv, by omega, hnl, by omega⟩, ⟨nva, nla, hnva, by omega, hnla, by omega⟩, ⟨nv0, nl0, hnv0, by omega, hnl0, by omega⟩, ⟨nv1, nl1, hnv1, by omega, hnl1, by omega⟩, rfl, rfl⟩, show PP G (xw G h x wn wa w0 w1 rd wr z jj lt) t.heap by rw [ht]; exact hP⟩, hS.F ht⟩) hS.2.2 dX4_exclude_34
    · skip
      refine lv_aload_n hx hb dX4_exclude_21 rfl (lv_at hl 0 rfl) ?_
      refine cRi (w := xw G h x wn wa w0 w1 rd wr z jj lt) (As := []) (rest := []) ⟨hx, hb, hml, hown, hts⟩ (mt_X4_openChanges l G h x wn wa w0 w1 rd wr z jj lt nv nl (hnv) (hnl) (by first | assumption | omega) (by first | assumption | omega)) (cwV 0 hts gX4_exclude_X4_openChanges rfl rfl rfl (by decide +kernel) ⟨Nat.le_of_ble_eq_true rfl, Nat.le_of_ble_eq_true rfl⟩) hK hN hP 0 4 rfl rfl rfl hl.1 rfl (Nat.le_of_ble_eq_true rfl) ⟨Nat.zero_le _, Nat.zero_le _⟩ dX4_exclude_22 (fun r22 hw22 => ?_)
      refine lv_iload_n hx hb dX4_exclude_25 rfl (lv_at hl 1 rfl) ?_
      refine cSi (As := [.int r22, .int a]) (rest := []) ⟨hx, hb, hml, hown, hts⟩ (mt_X3_holds l r22 a) (va_cwS 2 hts gX4_exclude_X3_holds rfl rfl rfl (by decide +kernel) ⟨Nat.le_of_ble_eq_true rfl, Nat.le_of_ble_eq_true rfl⟩) rfl hl.1 rfl (Nat.le_of_ble_eq_true rfl) ⟨Nat.zero_le _, Nat.zero_le _⟩ dX4_exclude_26 (fun r26 hw26 => ?_)
      rcases hw26 with rfl | rfl
      · skip
        refine lv_if_ne (tgt := 35) hx hb dX4_exclude_29 (by decide) (fun _ => ?_) (fun c9 => absurd c9 (by decide))
        refine lv_aload_n hx hb dX4_exclude_35 rfl (lv_at hl 0 rfl) ?_
        refine va_get (D := gD G) (ci := 4) (v := .ref (h 10)) (C := RX4) (T := TX4) (N := 9) hx hb hts hiX4 hown hK hP 0 rfl rfl 0 (by decide) k10 (fun _ h9 => h9) rfl dX4_exclude_36 ?_
        refine lv_iload_n hx hb dX4_exclude_39 rfl (lv_at hl 1 rfl) ?_
        refine cWv (As := [.int a]) (rest := []) (S := oS) (wa := xw G h x wn wa w0 w1 rd wr z jj lt) (wc := wv G (fun k => h (10 + k)) wn) (w1 := fun v => wv G (fun k => h (10 + k)) v) (wa' := fun v => xw G h x v wa w0 w1 rd wr z jj lt) ⟨hx, hb, hml, hown, hts⟩ (mt_X3_excludeFromNext l G (fun k => h (10 + k)) _ wn nv a (hnv) (by first | assumption | omega)) (cwV 1 hts gX4_exclude_X3_excludeFromNext rfl rfl rfl (by decide +kernel) ⟨Nat.le_of_ble_eq_true rfl, Nat.le_of_ble_eq_true rfl⟩) hK hN hP hD hS hA [3, 4, 5, 6, 7, 8, 9, 10] rfl (by decide) rfl (fun _ => rfl) (fun _ => rfl) (fun _ => rfl) 0 3 rfl rfl rfl hl.1 rfl (Nat.le_of_ble_eq_true rfl) ⟨Nat.zero_le _, Nat.zero_le _⟩ dX4_exclude_40 (fun u40 H locs hw40 hP hD hS => ?_)
        have hR40 := hw40
        have hP : PP G (xw G h x u40 wa w0 w1 rd wr z jj lt) H := hP
        have hD : va_D A (xw G h x u40 wa w0 w1 rd wr z jj lt) := hD
        refine lv_aload_n hx hb dX4_exclude_43 rfl (lv_at hl 0 rfl) ?_
        refine cRi (w := xw G h x u40 wa w0 w1 rd wr z jj lt) (As := []) (rest := []) ⟨hx, hb, hml, hown, hts⟩ (mt_X4_openLines l G h x u40 wa w0 w1 rd wr z jj lt nv nl ((hR40.1 0 (by decide)).trans (hnv)) ((hR40.1 5 (by decide)).trans (hnl)) (by first | assumption | omega) (by first | assumption | omega)) (cwV 0 hts gX4_exclude_X4_openLines rfl rfl rfl (by decide +kernel) ⟨Nat.le_of_ble_eq_true rfl, Nat.le_of_ble_eq_true rfl⟩) hK hN hP 0 4 rfl rfl rfl hl.1 rfl (Nat.le_of_ble_eq_true rfl) ⟨Nat.zero_le _, Nat.zero_le _⟩ dX4_exclude_44 (fun r44 hw44 => ?_)
        obtain ⟨n44, hn44, rfl⟩ := hw44
        exact W.iret (v := nI (n44)) hx hb hr (fun t ht hW => ⟨⟨nI (n44), (x, u40, wa, w0, w1, rd, wr, z, jj, lt), rfl, ⟨_, _, _, _, _, _, _, _, _, _, rfl, ⟨nv, nl, (hR40.1 0 (by decide)).trans (hnv), by omega, (hR40.1 5 (by decide)).trans (hnl), by omega⟩, ⟨nva, nla, hnva, by omega, hnla, by omega⟩, ⟨nv0, nl0, hnv0, by omega, hnl0, by omega⟩, ⟨nv1, nl1, hnv1, by omega, hnl1, by omega⟩, rfl, rfl⟩, show PP G (xw G h x u40 wa w0 w1 rd wr z jj lt) t.heap by rw [ht]; exact hP⟩, hS.F ht⟩) hS.2.2 dX4_exclude_47
      · skip
        refine lv_if_ne (tgt := 35) hx hb dX4_exclude_29 (by decide) (fun c9 => absurd (by decide) c9) (fun _ => ?_)
        refine lv_ldc (v := (-1000000003 : Int32)) hx hb hown (hts (.constant RX4 148 (-1000000003)) (List.mem_of_getElem? (i := 4) rfl)) dX4_exclude_32 ?_
        exact W.iret (v := (-1000000003 : Int32)) hx hb hr (fun t ht hW => ⟨⟨(-1000000003 : Int32), (x, wn, wa, w0, w1, rd, wr, z, jj, lt), rfl, ⟨_, _, _, _, _, _, _, _, _, _, rfl, ⟨nv, nl, hnv, by omega, hnl, by omega⟩, ⟨nva, nla, hnva, by omega, hnla, by omega⟩, ⟨nv0, nl0, hnv0, by omega, hnl0, by omega⟩, ⟨nv1, nl1, hnv1, by omega, hnl1, by omega⟩, rfl, rfl⟩, show PP G (xw G h x wn wa w0 w1 rd wr z jj lt) t.heap by rw [ht]; exact hP⟩, hS.F ht⟩) hS.2.2 dX4_exclude_34
  · skip
    refine lv_if_ne (tgt := 14) hx hb dX4_exclude_8 (by decide) (fun c9 => absurd (by decide) c9) (fun _ => ?_)
    refine lv_ldc (v := (-1000000001 : Int32)) hx hb hown (hts (.constant RX4 110 (-1000000001)) (List.mem_of_getElem? (i := 2) rfl)) dX4_exclude_11 ?_
    exact W.iret (v := (-1000000001 : Int32)) hx hb hr (fun t ht hW => ⟨⟨(-1000000001 : Int32), (x, wn, wa, w0, w1, rd, wr, z, jj, lt), rfl, ⟨_, _, _, _, _, _, _, _, _, _, rfl, ⟨nv, nl, hnv, by omega, hnl, by omega⟩, ⟨nva, nla, hnva, by omega, hnla, by omega⟩, ⟨nv0, nl0, hnv0, by omega, hnl0, by omega⟩, ⟨nv1, nl1, hnv1, by omega, hnl1, by omega⟩, rfl, rfl⟩, show PP G (xw G h x wn wa w0 w1 rd wr z jj lt) t.heap by rw [ht]; exact hP⟩, hS.F ht⟩) hS.2.2 dX4_exclude_13
set_option maxHeartbeats 1000000 in
set_option maxRecDepth 100000 in
theorem mt_X4_put (l : Launch) (G : gG) (h : Nat → Nat) (sz : Nat) (x : oS) (wn : oS) (wa : oS) (w0 : oS) (w1 : oS) (rd : oS) (wr : oS) (z : oS) (jj : Nat → Nat → Int64) (lt : Int64) (nv : Nat) (nl : Nat) (nva : Nat) (nla : Nat) (nv0 : Nat) (nl0 : Nat) (nv1 : Nat) (nl1 : Nat) (len : Nat) (a : Int32) (b : Int32) (hnv : wn.1 0 = nI nv) (hnl : wn.1 5 = nI nl) (hnva : wa.1 0 = nI nva) (hnla : wa.1 5 = nI nla) (hnv0 : w0.1 0 = nI nv0) (hnl0 : w0.1 5 = nI nl0) (hnv1 : w1.1 0 = nI nv1) (hnl1 : w1.1 5 = nI nl1) (hlen : rd.1 1 = nI len) (hnv24 : nv ≤ 24) (hnl120 : nl ≤ 120) (hva24 : nva ≤ 24) (hla120 : nla ≤ 120) (hv024 : nv0 ≤ 24) (hl0120 : nl0 ≤ 120) (hv124 : nv1 ≤ 24) (hl1120 : nl1 ≤ 120) (hl240 : len ≤ 240) (hsz : ∀ j, j < 4 → z.2 1 j = -1 ∨ ∃ q, q ≤ 40 ∧ z.2 1 j = nI q) : Met l yX4_put wsX4_put ({ frames := 4, cells := 0, slots := 0, locals := 96 }) (preW G (xw G h x wn wa w0 w1 rd wr z jj lt) sz [.ref (h 0), .int a, .int b]) (va_Qi (fun (r : Int32) (v : oS × oS × oS × oS × oS × oS × oS × oS × (Nat → Nat → Int64) × Int64) => XQ rd z v) (fun v t => PP G (xw G h v.1 v.2.1 v.2.2.1 v.2.2.2.1 v.2.2.2.2.1 v.2.2.2.2.2.1 v.2.2.2.2.2.2.1 v.2.2.2.2.2.2.2.1 v.2.2.2.2.2.2.2.2.1 v.2.2.2.2.2.2.2.2.2) t.heap) (va_A (xw G h x wn wa w0 w1 rd wr z jj lt) sz)) 0 0 (va_A (xw G h x wn wa w0 w1 rd wr z jj lt) sz) := by
  refine Met.ofW (cc := cX4_put) (maxL := 3) (ret := (some .int)) (by decide) rfl ?_
  intro p e s m args below meth c s₁ B hml hv
  obtain ⟨ha, hsz, hP, hK, hN, hD0⟩ := hv
  subst ha
  have hx := B.exec
  have hb := B.bytes
  have hr := B.returns
  have hts := atoms_spec (ws := wsX4_put) B.pre
  have hown : s.vm.findClass RX4 = some m.cls := findClass_of_methodNamed B.named
  have hlocks := B.notSynchronized
  subst hsz
  have hD := hD0.self (sz := s.heap.size)
  generalize hAe : va_A (xw G h x wn wa w0 w1 rd wr z jj lt) s.heap.size = A at hD ⊢
  have hA : ∀ q : Nat, s.heap.size ≤ q → A q := fun q h => by rw [← hAe]; exact Or.inr h
  clear hAe hD0
  have hS : va_S A s.heap s.heap [] := va_S.rf
  have hiX4 : ∀ w ∈ wsX40, w ∈ wsX4_put := by decide +kernel
  have k48 := hts (.fieldLink RX4 48 "WovenHistory" "opened" "Z") (List.mem_of_getElem? (i := 2) rfl)
  have k10 := hts (.fieldLink RX4 10 "WovenHistory" "now" "LWovenHistory$Weave;") (List.mem_of_getElem? (i := 4) rfl)
  have hiX3 : ∀ w ∈ wsX30, w ∈ wsX4_put := by decide +kernel
  have k85 : (Cond.fieldLinkNest "WovenHistory" 85 "WovenHistory$Weave" "lines" "I" "WovenHistory").before _ s = true := va_Nw.use (A := ([.ref (h 0), .int a, .int b] : List Value).toArray) rfl (hN.1 ("WovenHistory", 85, "WovenHistory$Weave", "lines", "I") (List.mem_of_getElem? (i := 13) rfl))
  have hl := lv_entry ([.ref (h 0), .int a, .int b]) (n := 3) (Nat.le_of_ble_eq_true rfl)
  rw [lg_entry_eq]
  generalize (lg_sl ([.ref (h 0), .int a, .int b]) ++ List.replicate (3 - (lg_sl ([.ref (h 0), .int a, .int b])).length) Slot.unset).toArray = ls at hl ⊢
  have hl : lv_has ls 3 [(0, .ref (h 0)), (1, .int a), (2, .int b)] := hl
  refine lv_iload_n hx hb dX4_put_0 rfl (lv_at hl 1 rfl) ?_
  refine lv_if_lt (tgt := 11) hx hb dX4_put_1 (by decide) (fun c1 => ?_) (fun c1 => ?_)
  · skip
    refine lv_ldc (v := (-1000000002 : Int32)) hx hb hown (hts (.constant RX4 56 (-1000000002)) (List.mem_of_getElem? (i := 1) rfl)) dX4_put_11 ?_
    exact W.iret (v := (-1000000002 : Int32)) hx hb hr (fun t ht hW => ⟨⟨(-1000000002 : Int32), (x, wn, wa, w0, w1, rd, wr, z, jj, lt), rfl, ⟨_, _, _, _, _, _, _, _, _, _, rfl, ⟨nv, nl, hnv, by omega, hnl, by omega⟩, ⟨nva, nla, hnva, by omega, hnla, by omega⟩, ⟨nv0, nl0, hnv0, by omega, hnl0, by omega⟩, ⟨nv1, nl1, hnv1, by omega, hnl1, by omega⟩, rfl, rfl⟩, show PP G (xw G h x wn wa w0 w1 rd wr z jj lt) t.heap by rw [ht]; exact hP⟩, hS.F ht⟩) hS.2.2 dX4_put_13
  · skip
    refine lv_iload_n hx hb dX4_put_4 rfl (lv_at hl 2 rfl) ?_
    refine cSi (As := [.int b]) (rest := []) ⟨hx, hb, hml, hown, hts⟩ (mt_X4_isSign l b) (va_cwS 1 hts gX4_put_X4_isSign rfl rfl rfl (by decide +kernel) ⟨Nat.le_of_ble_eq_true rfl, Nat.le_of_ble_eq_true rfl⟩) rfl hl.1 rfl (Nat.le_of_ble_eq_true rfl) ⟨Nat.zero_le _, Nat.zero_le _⟩ dX4_put_5 (fun r5 hw5 => ?_)
    rcases hw5 with ⟨rfl, hy5⟩ | rfl
    · skip
      refine lv_if_ne (tgt := 14) hx hb dX4_put_8 (by decide) (fun _ => ?_) (fun c9 => absurd c9 (by decide))
      refine lv_aload_n hx hb dX4_put_14 rfl (lv_at hl 0 rfl) ?_
      refine va_get (D := gD G) (ci := 4) (v := .int (x.1 7)) (C := RX4) (T := TX4) (N := 9) hx hb hts hiX4 hown hK hP 0 rfl rfl 7 (by decide) k48 (fun _ h9 => h9) rfl dX4_put_15 ?_
      refine lv_if_eq (tgt := 29) hx hb dX4_put_18 (by decide) (fun c18 => ?_) (fun c18 => ?_)
      · skip
        refine lv_ldc (v := (-1000000003 : Int32)) hx hb hown (hts (.constant RX4 148 (-1000000003)) (List.mem_of_getElem? (i := 3) rfl)) dX4_put_29 ?_
        exact W.iret (v := (-1000000003 : Int32)) hx hb hr (fun t ht hW => ⟨⟨(-1000000003 : Int32), (x, wn, wa, w0, w1, rd, wr, z, jj, lt), rfl, ⟨_, _, _, _, _, _, _, _, _, _, rfl, ⟨nv, nl, hnv, by omega, hnl, by omega⟩, ⟨nva, nla, hnva, by omega, hnla, by omega⟩, ⟨nv0, nl0, hnv0, by omega, hnl0, by omega⟩, ⟨nv1, nl1, hnv1, by omega, hnl1, by omega⟩, rfl, rfl⟩, show PP G (xw G h x wn wa w0 w1 rd wr z jj lt) t.heap by rw [ht]; exact hP⟩, hS.F ht⟩) hS.2.2 dX4_put_31
      · skip
        refine lv_iload_n hx hb dX4_put_21 rfl (lv_at hl 1 rfl) ?_
        refine lv_aload_n hx hb dX4_put_22 rfl (lv_at hl 0 rfl) ?_
        refine cRi (w := xw G h x wn wa w0 w1 rd wr z jj lt) (As := []) (rest := [.int a]) ⟨hx, hb, hml, hown, hts⟩ (mt_X4_openLines l G h x wn wa w0 w1 rd wr z jj lt nv nl (hnv) (hnl) (by first | assumption | omega) (by first | assumption | omega)) (cwV 0 hts gX4_put_X4_openLines rfl rfl rfl (by decide +kernel) ⟨Nat.le_of_ble_eq_true rfl, Nat.le_of_ble_eq_true rfl⟩) hK hN hP 0 4 rfl rfl rfl hl.1 rfl (Nat.le_of_ble_eq_true rfl) ⟨Nat.zero_le _, Nat.zero_le _⟩ dX4_put_23 (fun r23 hw23 => ?_)
        obtain ⟨n23, hn23, rfl⟩ := hw23
        refine lv_icmp_le (tgt := 32) hx hb dX4_put_26 (by decide) (fun c26 => ?_) (fun c26 => ?_)
        · skip
          refine lv_aload_n hx hb dX4_put_32 rfl (lv_at hl 0 rfl) ?_
          refine va_get (D := gD G) (ci := 4) (v := .ref (h 10)) (C := RX4) (T := TX4) (N := 9) hx hb hts hiX4 hown hK hP 0 rfl rfl 0 (by decide) k10 (fun _ h9 => h9) rfl dX4_put_33 ?_
          refine va_getN (D := gD G) (ci := 3) (v := .int (wn.1 5)) (C := RX3) (T := TX3) (N := 9) hx hb hts hiX3 hown hK hP 3 rfl rfl 5 (by decide) k85 (fun _ h9 => h9) rfl dX4_put_36 ?_
          refine topE hnl ?_
          refine lv_bipush (v := nI 120) hx hb dX4_put_39 (by decide) ?_
          refine lv_icmp_lt (tgt := 47) hx hb dX4_put_41 (by decide) (fun c41 => ?_) (fun c41 => ?_)
          · skip
            have n41 : nl < 120 := (nI_ltI (a := nl) (b := 120) (by omega) (by omega)).mp c41
            refine lv_aload_n hx hb dX4_put_47 rfl (lv_at hl 0 rfl) ?_
            refine va_get (D := gD G) (ci := 4) (v := .ref (h 10)) (C := RX4) (T := TX4) (N := 9) hx hb hts hiX4 hown hK hP 0 rfl rfl 0 (by decide) k10 (fun _ h9 => h9) rfl dX4_put_48 ?_
            refine lv_iload_n hx hb dX4_put_51 rfl (lv_at hl 1 rfl) ?_
            refine lv_iload_n hx hb dX4_put_52 rfl (lv_at hl 2 rfl) ?_
            refine cWi (As := [.int a, .int b]) (rest := []) (S := oS) (wa := xw G h x wn wa w0 w1 rd wr z jj lt) (wc := wv G (fun k => h (10 + k)) wn) (w1 := fun v => wv G (fun k => h (10 + k)) v) (wa' := fun v => xw G h x v wa w0 w1 rd wr z jj lt) ⟨hx, hb, hml, hown, hts⟩ (mt_X3_putByNext l G (fun k => h (10 + k)) _ wn nv nl a b (hnv) (hnl) (by first | assumption | omega) (by first | assumption | omega)) (cwV 2 hts gX4_put_X3_putByNext rfl rfl rfl (by decide +kernel) ⟨Nat.le_of_ble_eq_true rfl, Nat.le_of_ble_eq_true rfl⟩) hK hN hP hD hS hA [3, 4, 5, 6, 7, 8, 9, 10] rfl (by decide) rfl (fun _ => rfl) (fun _ => rfl) (fun _ => rfl) 0 3 rfl rfl rfl hl.1 rfl (Nat.le_of_ble_eq_true rfl) ⟨Nat.zero_le _, Nat.zero_le _⟩ dX4_put_53 (fun r53 u53 H locs hw53 hP hD hS => ?_)
            obtain ⟨hR53, n53, hn53, en53⟩ := hw53
            have hP : PP G (xw G h x u53 wa w0 w1 rd wr z jj lt) H := hP
            have hD : va_D A (xw G h x u53 wa w0 w1 rd wr z jj lt) := hD
            exact W.iret (v := r53) hx hb hr (fun t ht hW => ⟨⟨r53, (x, u53, wa, w0, w1, rd, wr, z, jj, lt), rfl, ⟨_, _, _, _, _, _, _, _, _, _, rfl, ⟨nv, n53, (hR53.1 0 (by decide)).trans (hnv), by omega, en53, by omega⟩, ⟨nva, nla, hnva, by omega, hnla, by omega⟩, ⟨nv0, nl0, hnv0, by omega, hnl0, by omega⟩, ⟨nv1, nl1, hnv1, by omega, hnl1, by omega⟩, rfl, rfl⟩, show PP G (xw G h x u53 wa w0 w1 rd wr z jj lt) t.heap by rw [ht]; exact hP⟩, hS.F ht⟩) hS.2.2 dX4_put_56
          · skip
            have n41 : ¬ (nl < 120) := fun q9 => c41 ((nI_ltI (a := nl) (b := 120) (by omega) (by omega)).mpr q9)
            refine lv_ldc (v := (-1000000004 : Int32)) hx hb hown (hts (.constant RX4 64 (-1000000004)) (List.mem_of_getElem? (i := 5) rfl)) dX4_put_44 ?_
            exact W.iret (v := (-1000000004 : Int32)) hx hb hr (fun t ht hW => ⟨⟨(-1000000004 : Int32), (x, wn, wa, w0, w1, rd, wr, z, jj, lt), rfl, ⟨_, _, _, _, _, _, _, _, _, _, rfl, ⟨nv, nl, hnv, by omega, hnl, by omega⟩, ⟨nva, nla, hnva, by omega, hnla, by omega⟩, ⟨nv0, nl0, hnv0, by omega, hnl0, by omega⟩, ⟨nv1, nl1, hnv1, by omega, hnl1, by omega⟩, rfl, rfl⟩, show PP G (xw G h x wn wa w0 w1 rd wr z jj lt) t.heap by rw [ht]; exact hP⟩, hS.F ht⟩) hS.2.2 dX4_put_46
        · skip
          refine lv_ldc (v := (-1000000003 : Int32)) hx hb hown (hts (.constant RX4 148 (-1000000003)) (List.mem_of_getElem? (i := 3) rfl)) dX4_put_29 ?_
          exact W.iret (v := (-1000000003 : Int32)) hx hb hr (fun t ht hW => ⟨⟨(-1000000003 : Int32), (x, wn, wa, w0, w1, rd, wr, z, jj, lt), rfl, ⟨_, _, _, _, _, _, _, _, _, _, rfl, ⟨nv, nl, hnv, by omega, hnl, by omega⟩, ⟨nva, nla, hnva, by omega, hnla, by omega⟩, ⟨nv0, nl0, hnv0, by omega, hnl0, by omega⟩, ⟨nv1, nl1, hnv1, by omega, hnl1, by omega⟩, rfl, rfl⟩, show PP G (xw G h x wn wa w0 w1 rd wr z jj lt) t.heap by rw [ht]; exact hP⟩, hS.F ht⟩) hS.2.2 dX4_put_31
    · skip
      refine lv_if_ne (tgt := 14) hx hb dX4_put_8 (by decide) (fun c9 => absurd (by decide) c9) (fun _ => ?_)
      refine lv_ldc (v := (-1000000002 : Int32)) hx hb hown (hts (.constant RX4 56 (-1000000002)) (List.mem_of_getElem? (i := 1) rfl)) dX4_put_11 ?_
      exact W.iret (v := (-1000000002 : Int32)) hx hb hr (fun t ht hW => ⟨⟨(-1000000002 : Int32), (x, wn, wa, w0, w1, rd, wr, z, jj, lt), rfl, ⟨_, _, _, _, _, _, _, _, _, _, rfl, ⟨nv, nl, hnv, by omega, hnl, by omega⟩, ⟨nva, nla, hnva, by omega, hnla, by omega⟩, ⟨nv0, nl0, hnv0, by omega, hnl0, by omega⟩, ⟨nv1, nl1, hnv1, by omega, hnl1, by omega⟩, rfl, rfl⟩, show PP G (xw G h x wn wa w0 w1 rd wr z jj lt) t.heap by rw [ht]; exact hP⟩, hS.F ht⟩) hS.2.2 dX4_put_13
set_option maxHeartbeats 1000000 in
set_option maxRecDepth 100000 in
theorem mt_X4_take (l : Launch) (G : gG) (h : Nat → Nat) (sz : Nat) (x : oS) (wn : oS) (wa : oS) (w0 : oS) (w1 : oS) (rd : oS) (wr : oS) (z : oS) (jj : Nat → Nat → Int64) (lt : Int64) (nv : Nat) (nl : Nat) (nva : Nat) (nla : Nat) (nv0 : Nat) (nl0 : Nat) (nv1 : Nat) (nl1 : Nat) (len : Nat) (a : Int32) (hnv : wn.1 0 = nI nv) (hnl : wn.1 5 = nI nl) (hnva : wa.1 0 = nI nva) (hnla : wa.1 5 = nI nla) (hnv0 : w0.1 0 = nI nv0) (hnl0 : w0.1 5 = nI nl0) (hnv1 : w1.1 0 = nI nv1) (hnl1 : w1.1 5 = nI nl1) (hlen : rd.1 1 = nI len) (hnv24 : nv ≤ 24) (hnl120 : nl ≤ 120) (hva24 : nva ≤ 24) (hla120 : nla ≤ 120) (hv024 : nv0 ≤ 24) (hl0120 : nl0 ≤ 120) (hv124 : nv1 ≤ 24) (hl1120 : nl1 ≤ 120) (hl240 : len ≤ 240) (hsz : ∀ j, j < 4 → z.2 1 j = -1 ∨ ∃ q, q ≤ 40 ∧ z.2 1 j = nI q) : Met l yX4_take wsX4_take ({ frames := 4, cells := 0, slots := 0, locals := 93 }) (preW G (xw G h x wn wa w0 w1 rd wr z jj lt) sz [.ref (h 0), .int a]) (va_Qi (fun (r : Int32) (v : oS × oS × oS × oS × oS × oS × oS × oS × (Nat → Nat → Int64) × Int64) => XQ rd z v) (fun v t => PP G (xw G h v.1 v.2.1 v.2.2.1 v.2.2.2.1 v.2.2.2.2.1 v.2.2.2.2.2.1 v.2.2.2.2.2.2.1 v.2.2.2.2.2.2.2.1 v.2.2.2.2.2.2.2.2.1 v.2.2.2.2.2.2.2.2.2) t.heap) (va_A (xw G h x wn wa w0 w1 rd wr z jj lt) sz)) 0 0 (va_A (xw G h x wn wa w0 w1 rd wr z jj lt) sz) := by
  refine Met.ofW (cc := cX4_take) (maxL := 2) (ret := (some .int)) (by decide) rfl ?_
  intro p e s m args below meth c s₁ B hml hv
  obtain ⟨ha, hsz, hP, hK, hN, hD0⟩ := hv
  subst ha
  have hx := B.exec
  have hb := B.bytes
  have hr := B.returns
  have hts := atoms_spec (ws := wsX4_take) B.pre
  have hown : s.vm.findClass RX4 = some m.cls := findClass_of_methodNamed B.named
  have hlocks := B.notSynchronized
  subst hsz
  have hD := hD0.self (sz := s.heap.size)
  generalize hAe : va_A (xw G h x wn wa w0 w1 rd wr z jj lt) s.heap.size = A at hD ⊢
  have hA : ∀ q : Nat, s.heap.size ≤ q → A q := fun q h => by rw [← hAe]; exact Or.inr h
  clear hAe hD0
  have hS : va_S A s.heap s.heap [] := va_S.rf
  have hiX4 : ∀ w ∈ wsX40, w ∈ wsX4_take := by decide +kernel
  have k48 := hts (.fieldLink RX4 48 "WovenHistory" "opened" "Z") (List.mem_of_getElem? (i := 2) rfl)
  have k10 := hts (.fieldLink RX4 10 "WovenHistory" "now" "LWovenHistory$Weave;") (List.mem_of_getElem? (i := 4) rfl)
  have hl := lv_entry ([.ref (h 0), .int a]) (n := 2) (Nat.le_of_ble_eq_true rfl)
  rw [lg_entry_eq]
  generalize (lg_sl ([.ref (h 0), .int a]) ++ List.replicate (2 - (lg_sl ([.ref (h 0), .int a])).length) Slot.unset).toArray = ls at hl ⊢
  have hl : lv_has ls 2 [(0, .ref (h 0)), (1, .int a)] := hl
  refine lv_iload_n hx hb dX4_take_0 rfl (lv_at hl 1 rfl) ?_
  refine lv_if_ge (tgt := 7) hx hb dX4_take_1 (by decide) (fun c1 => ?_) (fun c1 => ?_)
  · skip
    refine lv_aload_n hx hb dX4_take_7 rfl (lv_at hl 0 rfl) ?_
    refine va_get (D := gD G) (ci := 4) (v := .int (x.1 7)) (C := RX4) (T := TX4) (N := 9) hx hb hts hiX4 hown hK hP 0 rfl rfl 7 (by decide) k48 (fun _ h9 => h9) rfl dX4_take_8 ?_
    refine lv_if_eq (tgt := 22) hx hb dX4_take_11 (by decide) (fun c11 => ?_) (fun c11 => ?_)
    · skip
      refine lv_ldc (v := (-1000000003 : Int32)) hx hb hown (hts (.constant RX4 148 (-1000000003)) (List.mem_of_getElem? (i := 3) rfl)) dX4_take_22 ?_
      exact W.iret (v := (-1000000003 : Int32)) hx hb hr (fun t ht hW => ⟨⟨(-1000000003 : Int32), (x, wn, wa, w0, w1, rd, wr, z, jj, lt), rfl, ⟨_, _, _, _, _, _, _, _, _, _, rfl, ⟨nv, nl, hnv, by omega, hnl, by omega⟩, ⟨nva, nla, hnva, by omega, hnla, by omega⟩, ⟨nv0, nl0, hnv0, by omega, hnl0, by omega⟩, ⟨nv1, nl1, hnv1, by omega, hnl1, by omega⟩, rfl, rfl⟩, show PP G (xw G h x wn wa w0 w1 rd wr z jj lt) t.heap by rw [ht]; exact hP⟩, hS.F ht⟩) hS.2.2 dX4_take_24
    · skip
      refine lv_iload_n hx hb dX4_take_14 rfl (lv_at hl 1 rfl) ?_
      refine lv_aload_n hx hb dX4_take_15 rfl (lv_at hl 0 rfl) ?_
      refine cRi (w := xw G h x wn wa w0 w1 rd wr z jj lt) (As := []) (rest := [.int a]) ⟨hx, hb, hml, hown, hts⟩ (mt_X4_openLines l G h x wn wa w0 w1 rd wr z jj lt nv nl (hnv) (hnl) (by first | assumption | omega) (by first | assumption | omega)) (cwV 0 hts gX4_take_X4_openLines rfl rfl rfl (by decide +kernel) ⟨Nat.le_of_ble_eq_true rfl, Nat.le_of_ble_eq_true rfl⟩) hK hN hP 0 4 rfl rfl rfl hl.1 rfl (Nat.le_of_ble_eq_true rfl) ⟨Nat.zero_le _, Nat.zero_le _⟩ dX4_take_16 (fun r16 hw16 => ?_)
      obtain ⟨n16, hn16, rfl⟩ := hw16
      refine lv_icmp_lt (tgt := 25) hx hb dX4_take_19 (by decide) (fun c19 => ?_) (fun c19 => ?_)
      · skip
        refine lv_aload_n hx hb dX4_take_25 rfl (lv_at hl 0 rfl) ?_
        refine va_get (D := gD G) (ci := 4) (v := .ref (h 10)) (C := RX4) (T := TX4) (N := 9) hx hb hts hiX4 hown hK hP 0 rfl rfl 0 (by decide) k10 (fun _ h9 => h9) rfl dX4_take_26 ?_
        refine lv_iload_n hx hb dX4_take_29 rfl (lv_at hl 1 rfl) ?_
        refine cWi (As := [.int a]) (rest := []) (S := oS) (wa := xw G h x wn wa w0 w1 rd wr z jj lt) (wc := wv G (fun k => h (10 + k)) wn) (w1 := fun v => wv G (fun k => h (10 + k)) v) (wa' := fun v => xw G h x v wa w0 w1 rd wr z jj lt) ⟨hx, hb, hml, hown, hts⟩ (mt_X3_takeByNext l G (fun k => h (10 + k)) _ wn nv nl a (hnv) (hnl) (by first | assumption | omega) (by first | assumption | omega)) (cwV 1 hts gX4_take_X3_takeByNext rfl rfl rfl (by decide +kernel) ⟨Nat.le_of_ble_eq_true rfl, Nat.le_of_ble_eq_true rfl⟩) hK hN hP hD hS hA [3, 4, 5, 6, 7, 8, 9, 10] rfl (by decide) rfl (fun _ => rfl) (fun _ => rfl) (fun _ => rfl) 0 3 rfl rfl rfl hl.1 rfl (Nat.le_of_ble_eq_true rfl) ⟨Nat.zero_le _, Nat.zero_le _⟩ dX4_take_30 (fun r30 u30 H locs hw30 hP hD hS => ?_)
        obtain ⟨hR30, n30, hn30, en30⟩ := hw30
        have hP : PP G (xw G h x u30 wa w0 w1 rd wr z jj lt) H := hP
        have hD : va_D A (xw G h x u30 wa w0 w1 rd wr z jj lt) := hD
        exact W.iret (v := r30) hx hb hr (fun t ht hW => ⟨⟨r30, (x, u30, wa, w0, w1, rd, wr, z, jj, lt), rfl, ⟨_, _, _, _, _, _, _, _, _, _, rfl, ⟨nv, n30, (hR30.1 0 (by decide)).trans (hnv), by omega, en30, by omega⟩, ⟨nva, nla, hnva, by omega, hnla, by omega⟩, ⟨nv0, nl0, hnv0, by omega, hnl0, by omega⟩, ⟨nv1, nl1, hnv1, by omega, hnl1, by omega⟩, rfl, rfl⟩, show PP G (xw G h x u30 wa w0 w1 rd wr z jj lt) t.heap by rw [ht]; exact hP⟩, hS.F ht⟩) hS.2.2 dX4_take_33
      · skip
        refine lv_ldc (v := (-1000000003 : Int32)) hx hb hown (hts (.constant RX4 148 (-1000000003)) (List.mem_of_getElem? (i := 3) rfl)) dX4_take_22 ?_
        exact W.iret (v := (-1000000003 : Int32)) hx hb hr (fun t ht hW => ⟨⟨(-1000000003 : Int32), (x, wn, wa, w0, w1, rd, wr, z, jj, lt), rfl, ⟨_, _, _, _, _, _, _, _, _, _, rfl, ⟨nv, nl, hnv, by omega, hnl, by omega⟩, ⟨nva, nla, hnva, by omega, hnla, by omega⟩, ⟨nv0, nl0, hnv0, by omega, hnl0, by omega⟩, ⟨nv1, nl1, hnv1, by omega, hnl1, by omega⟩, rfl, rfl⟩, show PP G (xw G h x wn wa w0 w1 rd wr z jj lt) t.heap by rw [ht]; exact hP⟩, hS.F ht⟩) hS.2.2 dX4_take_24
  · skip
    refine lv_ldc (v := (-1000000002 : Int32)) hx hb hown (hts (.constant RX4 56 (-1000000002)) (List.mem_of_getElem? (i := 1) rfl)) dX4_take_4 ?_
    exact W.iret (v := (-1000000002 : Int32)) hx hb hr (fun t ht hW => ⟨⟨(-1000000002 : Int32), (x, wn, wa, w0, w1, rd, wr, z, jj, lt), rfl, ⟨_, _, _, _, _, _, _, _, _, _, rfl, ⟨nv, nl, hnv, by omega, hnl, by omega⟩, ⟨nva, nla, hnva, by omega, hnla, by omega⟩, ⟨nv0, nl0, hnv0, by omega, hnl0, by omega⟩, ⟨nv1, nl1, hnv1, by omega, hnl1, by omega⟩, rfl, rfl⟩, show PP G (xw G h x wn wa w0 w1 rd wr z jj lt) t.heap by rw [ht]; exact hP⟩, hS.F ht⟩) hS.2.2 dX4_take_6
set_option maxHeartbeats 1000000 in
set_option maxRecDepth 100000 in
theorem mt_X4_close (l : Launch) (G : gG) (h : Nat → Nat) (sz : Nat) (x : oS) (wn : oS) (wa : oS) (w0 : oS) (w1 : oS) (rd : oS) (wr : oS) (z : oS) (jj : Nat → Nat → Int64) (lt : Int64) (nv : Nat) (nl : Nat) (nva : Nat) (nla : Nat) (nv0 : Nat) (nl0 : Nat) (nv1 : Nat) (nl1 : Nat) (len : Nat) (hnv : wn.1 0 = nI nv) (hnl : wn.1 5 = nI nl) (hnva : wa.1 0 = nI nva) (hnla : wa.1 5 = nI nla) (hnv0 : w0.1 0 = nI nv0) (hnl0 : w0.1 5 = nI nl0) (hnv1 : w1.1 0 = nI nv1) (hnl1 : w1.1 5 = nI nl1) (hlen : rd.1 1 = nI len) (hnv24 : nv ≤ 24) (hnl120 : nl ≤ 120) (hva24 : nva ≤ 24) (hla120 : nla ≤ 120) (hv024 : nv0 ≤ 24) (hl0120 : nl0 ≤ 120) (hv124 : nv1 ≤ 24) (hl1120 : nl1 ≤ 120) (hl240 : len ≤ 240) (hsz : ∀ j, j < 4 → z.2 1 j = -1 ∨ ∃ q, q ≤ 40 ∧ z.2 1 j = nI q) : Met l yX4_close wsX4_close ({ frames := 1, cells := 0, slots := 0, locals := 20 }) (preW G (xw G h x wn wa w0 w1 rd wr z jj lt) sz [.ref (h 0)]) (va_Qi (fun (r : Int32) (v : oS × oS × oS × oS × oS × oS × oS × oS × (Nat → Nat → Int64) × Int64) => XQ rd z v) (fun v t => PP G (xw G h v.1 v.2.1 v.2.2.1 v.2.2.2.1 v.2.2.2.2.1 v.2.2.2.2.2.1 v.2.2.2.2.2.2.1 v.2.2.2.2.2.2.2.1 v.2.2.2.2.2.2.2.2.1 v.2.2.2.2.2.2.2.2.2) t.heap) (va_A (xw G h x wn wa w0 w1 rd wr z jj lt) sz)) 0 0 (va_A (xw G h x wn wa w0 w1 rd wr z jj lt) sz) := by
  refine Met.ofW (cc := cX4_close) (maxL := 1) (ret := (some .int)) (by decide) rfl ?_
  intro p e s m args below meth c s₁ B hml hv
  obtain ⟨ha, hsz, hP, hK, hN, hD0⟩ := hv
  subst ha
  have hx := B.exec
  have hb := B.bytes
  have hr := B.returns
  have hts := atoms_spec (ws := wsX4_close) B.pre
  have hown : s.vm.findClass RX4 = some m.cls := findClass_of_methodNamed B.named
  have hlocks := B.notSynchronized
  subst hsz
  have hD := hD0.self (sz := s.heap.size)
  generalize hAe : va_A (xw G h x wn wa w0 w1 rd wr z jj lt) s.heap.size = A at hD ⊢
  have hA : ∀ q : Nat, s.heap.size ≤ q → A q := fun q h => by rw [← hAe]; exact Or.inr h
  clear hAe hD0
  have hS : va_S A s.heap s.heap [] := va_S.rf
  have hiX4 : ∀ w ∈ wsX40, w ∈ wsX4_close := by decide +kernel
  have k48 := hts (.fieldLink RX4 48 "WovenHistory" "opened" "Z") (List.mem_of_getElem? (i := 1) rfl)
  have k10 := hts (.fieldLink RX4 10 "WovenHistory" "now" "LWovenHistory$Weave;") (List.mem_of_getElem? (i := 3) rfl)
  have hiX3 : ∀ w ∈ wsX30, w ∈ wsX4_close := by decide +kernel
  have k82 : (Cond.fieldLinkNest "WovenHistory" 82 "WovenHistory$Weave" "versions" "I" "WovenHistory").before _ s = true := va_Nw.use (A := ([.ref (h 0)] : List Value).toArray) rfl (hN.1 ("WovenHistory", 82, "WovenHistory$Weave", "versions", "I") (List.mem_of_getElem? (i := 12) rfl))
  have hl := lv_entry ([.ref (h 0)]) (n := 1) (Nat.le_of_ble_eq_true rfl)
  rw [lg_entry_eq]
  generalize (lg_sl ([.ref (h 0)]) ++ List.replicate (1 - (lg_sl ([.ref (h 0)])).length) Slot.unset).toArray = ls at hl ⊢
  have hl : lv_has ls 1 [(0, .ref (h 0))] := hl
  refine lv_aload_n hx hb dX4_close_0 rfl (lv_at hl 0 rfl) ?_
  refine va_get (D := gD G) (ci := 4) (v := .int (x.1 7)) (C := RX4) (T := TX4) (N := 9) hx hb hts hiX4 hown hK hP 0 rfl rfl 7 (by decide) k48 (fun _ h9 => h9) rfl dX4_close_1 ?_
  refine lv_if_ne (tgt := 10) hx hb dX4_close_4 (by decide) (fun c4 => ?_) (fun c4 => ?_)
  · skip
    refine lv_aload_n hx hb dX4_close_10 rfl (lv_at hl 0 rfl) ?_
    refine va_get (D := gD G) (ci := 4) (v := .ref (h 10)) (C := RX4) (T := TX4) (N := 9) hx hb hts hiX4 hown hK hP 0 rfl rfl 0 (by decide) k10 (fun _ h9 => h9) rfl dX4_close_11 ?_
    refine cWv (As := []) (rest := []) (S := oS) (wa := xw G h x wn wa w0 w1 rd wr z jj lt) (wc := wv G (fun k => h (10 + k)) wn) (w1 := fun v => wv G (fun k => h (10 + k)) v) (wa' := fun v => xw G h x v wa w0 w1 rd wr z jj lt) ⟨hx, hb, hml, hown, hts⟩ (mt_X3_finishVersion l G (fun k => h (10 + k)) _ wn nv (hnv) (by first | assumption | omega)) (cwV 0 hts gX4_close_X3_finishVersion rfl rfl rfl (by decide +kernel) ⟨Nat.le_of_ble_eq_true rfl, Nat.le_of_ble_eq_true rfl⟩) hK hN hP hD hS hA [3, 4, 5, 6, 7, 8, 9, 10] rfl (by decide) rfl (fun _ => rfl) (fun _ => rfl) (fun _ => rfl) 0 3 rfl rfl rfl hl.1 rfl (Nat.le_of_ble_eq_true rfl) ⟨Nat.zero_le _, Nat.zero_le _⟩ dX4_close_14 (fun u14 H locs hw14 hP hD hS => ?_)
    obtain ⟨n14, hn14, rfl⟩ := hw14
    have hP : PP G (xw G h x (oI wn 0 (nI n14)) wa w0 w1 rd wr z jj lt) H := hP
    have hD : va_D A (xw G h x (oI wn 0 (nI n14)) wa w0 w1 rd wr z jj lt) := hD
    refine lv_aload_n hx hb dX4_close_17 rfl (lv_at hl 0 rfl) ?_
    refine lv_iconst (v := nI 0) hx hb dX4_close_18 (by decide) ?_
    refine va_put (D := gD G) (ci := 4) (v := .int (nI 0)) (ty := .boolean) (C := RX4) (T := TX4) (N := 9) hx hb hts hiX4 tyX4 tyX4_ok nmX4 hown hK hP hD hS 0 rfl rfl 7 (by decide) k48 (fun _ h9 => h9) rfl (by decide +kernel) (rfl) (rfl) (Nat.le_of_ble_eq_true rfl) dX4_close_19 (fun H locs hP hD hS => ?_)
    have hP : PP G (xw G h (oI x 7 (nI 0)) (oI wn 0 (nI n14)) wa w0 w1 rd wr z jj lt) H := hP
    have hD : va_D A (xw G h (oI x 7 (nI 0)) (oI wn 0 (nI n14)) wa w0 w1 rd wr z jj lt) := hD
    refine lv_aload_n hx hb dX4_close_22 rfl (lv_at hl 0 rfl) ?_
    refine va_get (D := gD G) (ci := 4) (v := .ref (h 10)) (C := RX4) (T := TX4) (N := 9) hx hb hts hiX4 hown hK hP 0 rfl rfl 0 (by decide) k10 (fun _ h9 => h9) rfl dX4_close_23 ?_
    refine va_getN (D := gD G) (ci := 3) (v := .int (nI (n14))) (C := RX3) (T := TX3) (N := 9) hx hb hts hiX3 hown hK hP 3 rfl rfl 0 (by decide) k82 (fun _ h9 => h9) rfl dX4_close_26 ?_
    refine lv_iconst (v := nI 1) hx hb dX4_close_29 (by decide) ?_
    refine lv_isub hx hb dX4_close_30 ?_
    exact W.iret (v := (nI (n14)) - (nI 1)) hx hb hr (fun t ht hW => ⟨⟨(nI (n14)) - (nI 1), (oI x 7 (nI 0), oI wn 0 (nI n14), wa, w0, w1, rd, wr, z, jj, lt), rfl, ⟨_, _, _, _, _, _, _, _, _, _, rfl, ⟨n14, nl, rfl, by omega, hnl, by omega⟩, ⟨nva, nla, hnva, by omega, hnla, by omega⟩, ⟨nv0, nl0, hnv0, by omega, hnl0, by omega⟩, ⟨nv1, nl1, hnv1, by omega, hnl1, by omega⟩, rfl, rfl⟩, show PP G (xw G h (oI x 7 (nI 0)) (oI wn 0 (nI n14)) wa w0 w1 rd wr z jj lt) t.heap by rw [ht]; exact hP⟩, hS.F ht⟩) hS.2.2 dX4_close_31
  · skip
    refine lv_ldc (v := (-1000000003 : Int32)) hx hb hown (hts (.constant RX4 148 (-1000000003)) (List.mem_of_getElem? (i := 2) rfl)) dX4_close_7 ?_
    exact W.iret (v := (-1000000003 : Int32)) hx hb hr (fun t ht hW => ⟨⟨(-1000000003 : Int32), (x, wn, wa, w0, w1, rd, wr, z, jj, lt), rfl, ⟨_, _, _, _, _, _, _, _, _, _, rfl, ⟨nv, nl, hnv, by omega, hnl, by omega⟩, ⟨nva, nla, hnva, by omega, hnla, by omega⟩, ⟨nv0, nl0, hnv0, by omega, hnl0, by omega⟩, ⟨nv1, nl1, hnv1, by omega, hnl1, by omega⟩, rfl, rfl⟩, show PP G (xw G h x wn wa w0 w1 rd wr z jj lt) t.heap by rw [ht]; exact hP⟩, hS.F ht⟩) hS.2.2 dX4_close_9
set_option maxHeartbeats 1000000 in
set_option maxRecDepth 100000 in
theorem mt_X4_leave (l : Launch) (G : gG) (h : Nat → Nat) (sz : Nat) (x : oS) (wn : oS) (wa : oS) (w0 : oS) (w1 : oS) (rd : oS) (wr : oS) (z : oS) (jj : Nat → Nat → Int64) (lt : Int64) (nv : Nat) (nl : Nat) (nva : Nat) (nla : Nat) (nv0 : Nat) (nl0 : Nat) (nv1 : Nat) (nl1 : Nat) (len : Nat) (hnv : wn.1 0 = nI nv) (hnl : wn.1 5 = nI nl) (hnva : wa.1 0 = nI nva) (hnla : wa.1 5 = nI nla) (hnv0 : w0.1 0 = nI nv0) (hnl0 : w0.1 5 = nI nl0) (hnv1 : w1.1 0 = nI nv1) (hnl1 : w1.1 5 = nI nl1) (hlen : rd.1 1 = nI len) (hnv24 : nv ≤ 24) (hnl120 : nl ≤ 120) (hva24 : nva ≤ 24) (hla120 : nla ≤ 120) (hv024 : nv0 ≤ 24) (hl0120 : nl0 ≤ 120) (hv124 : nv1 ≤ 24) (hl1120 : nl1 ≤ 120) (hl240 : len ≤ 240) (hsz : ∀ j, j < 4 → z.2 1 j = -1 ∨ ∃ q, q ≤ 40 ∧ z.2 1 j = nI q) : Met l yX4_leave wsX4_leave ({ frames := 4, cells := 0, slots := 0, locals := 87 }) (preW G (xw G h x wn wa w0 w1 rd wr z jj lt) sz [.ref (h 0)]) (va_Qi (fun (r : Int32) (v : oS × oS × oS × oS × oS × oS × oS × oS × (Nat → Nat → Int64) × Int64) => XQ rd z v) (fun v t => PP G (xw G h v.1 v.2.1 v.2.2.1 v.2.2.2.1 v.2.2.2.2.1 v.2.2.2.2.2.1 v.2.2.2.2.2.2.1 v.2.2.2.2.2.2.2.1 v.2.2.2.2.2.2.2.2.1 v.2.2.2.2.2.2.2.2.2) t.heap) (va_A (xw G h x wn wa w0 w1 rd wr z jj lt) sz)) 0 0 (va_A (xw G h x wn wa w0 w1 rd wr z jj lt) sz) := by
  refine Met.ofW (cc := cX4_leave) (maxL := 2) (ret := (some .int)) (by decide) rfl ?_
  intro p e s m args below meth c s₁ B hml hv
  obtain ⟨ha, hsz, hP, hK, hN, hD0⟩ := hv
  subst ha
  have hx := B.exec
  have hb := B.bytes
  have hr := B.returns
  have hts := atoms_spec (ws := wsX4_leave) B.pre
  have hown : s.vm.findClass RX4 = some m.cls := findClass_of_methodNamed B.named
  have hlocks := B.notSynchronized
  subst hsz
  have hD := hD0.self (sz := s.heap.size)
  generalize hAe : va_A (xw G h x wn wa w0 w1 rd wr z jj lt) s.heap.size = A at hD ⊢
  have hA : ∀ q : Nat, s.heap.size ≤ q → A q := fun q h => by rw [← hAe]; exact Or.inr h
  clear hAe hD0
  have hS : va_S A s.heap s.heap [] := va_S.rf
  have hiX4 : ∀ w ∈ wsX40, w ∈ wsX4_leave := by decide +kernel
  have k48 := hts (.fieldLink RX4 48 "WovenHistory" "opened" "Z") (List.mem_of_getElem? (i := 1) rfl)
  have k10 := hts (.fieldLink RX4 10 "WovenHistory" "now" "LWovenHistory$Weave;") (List.mem_of_getElem? (i := 3) rfl)
  have k16 := hts (.fieldLink RX4 16 "WovenHistory" "aheadOfOpen" "LWovenHistory$Weave;") (List.mem_of_getElem? (i := 4) rfl)
  have hl := lv_entry ([.ref (h 0)]) (n := 2) (Nat.le_of_ble_eq_true rfl)
  rw [lg_entry_eq]
  generalize (lg_sl ([.ref (h 0)]) ++ List.replicate (2 - (lg_sl ([.ref (h 0)])).length) Slot.unset).toArray = ls at hl ⊢
  have hl : lv_has ls 2 [(0, .ref (h 0))] := hl
  refine lv_aload_n hx hb dX4_leave_0 rfl (lv_at hl 0 rfl) ?_
  refine va_get (D := gD G) (ci := 4) (v := .int (x.1 7)) (C := RX4) (T := TX4) (N := 9) hx hb hts hiX4 hown hK hP 0 rfl rfl 7 (by decide) k48 (fun _ h9 => h9) rfl dX4_leave_1 ?_
  refine lv_if_ne (tgt := 10) hx hb dX4_leave_4 (by decide) (fun c4 => ?_) (fun c4 => ?_)
  · skip
    refine lv_aload_n hx hb dX4_leave_10 rfl (lv_at hl 0 rfl) ?_
    refine cRi (w := xw G h x wn wa w0 w1 rd wr z jj lt) (As := []) (rest := []) ⟨hx, hb, hml, hown, hts⟩ (mt_X4_openLines l G h x wn wa w0 w1 rd wr z jj lt nv nl (hnv) (hnl) (by first | assumption | omega) (by first | assumption | omega)) (cwV 0 hts gX4_leave_X4_openLines rfl rfl rfl (by decide +kernel) ⟨Nat.le_of_ble_eq_true rfl, Nat.le_of_ble_eq_true rfl⟩) hK hN hP 0 4 rfl rfl rfl hl.1 rfl (Nat.le_of_ble_eq_true rfl) ⟨Nat.zero_le _, Nat.zero_le _⟩ dX4_leave_11 (fun r11 hw11 => ?_)
    obtain ⟨n11, hn11, rfl⟩ := hw11
    refine lv_istore_n (lv' := [(1, .int (nI (n11))), (0, .ref (h 0))]) hx hb dX4_leave_14 rfl hl (by decide) rfl (fun ls hl => ?_)
    refine lv_aload_n hx hb dX4_leave_15 rfl (lv_at hl 1 rfl) ?_
    refine va_get (D := gD G) (ci := 4) (v := .ref (h 10)) (C := RX4) (T := TX4) (N := 9) hx hb hts hiX4 hown hK hP 0 rfl rfl 0 (by decide) k10 (fun _ h9 => h9) rfl dX4_leave_16 ?_
    refine lv_aload_n hx hb dX4_leave_19 rfl (lv_at hl 1 rfl) ?_
    refine va_get (D := gD G) (ci := 4) (v := .ref (h 20)) (C := RX4) (T := TX4) (N := 9) hx hb hts hiX4 hown hK hP 0 rfl rfl 1 (by decide) k16 (fun _ h9 => h9) rfl dX4_leave_20 ?_
    refine cWv (As := [.ref (h 20)]) (rest := []) (S := oS × oS) (wa := xw G h x wn wa w0 w1 rd wr z jj lt) (wc := wb G (fun k => h (10 + k)) (fun k => h (20 + k)) wn wa) (w1 := fun v => wb G (fun k => h (10 + k)) (fun k => h (20 + k)) v.1 v.2) (wa' := fun v => xw G h x v.1 v.2 w0 w1 rd wr z jj lt) ⟨hx, hb, hml, hown, hts⟩ (mt_X3_become l G (fun k => h (10 + k)) _ wn wa (fun k => h (20 + k))) (cwV 1 hts gX4_leave_X3_become rfl rfl rfl (by decide +kernel) ⟨Nat.le_of_ble_eq_true rfl, Nat.le_of_ble_eq_true rfl⟩) hK hN hP hD hS hA [3, 4, 5, 6, 7, 8, 9, 10, 11, 12, 13, 14, 15, 16, 17, 18] rfl (by decide) rfl (fun _ => rfl) (fun _ => rfl) (fun _ => rfl) 0 3 rfl rfl rfl hl.1 rfl (Nat.le_of_ble_eq_true rfl) ⟨Nat.zero_le _, Nat.zero_le _⟩ dX4_leave_23 (fun u23 H locs hw23 hP hD hS => ?_)
    obtain ⟨w23, rfl, e23a, e23b⟩ := hw23
    have hP : PP G (xw G h x w23 wa w0 w1 rd wr z jj lt) H := hP
    have hD : va_D A (xw G h x w23 wa w0 w1 rd wr z jj lt) := hD
    refine lv_aload_n hx hb dX4_leave_26 rfl (lv_at hl 1 rfl) ?_
    refine lv_iconst (v := nI 0) hx hb dX4_leave_27 (by decide) ?_
    refine va_put (D := gD G) (ci := 4) (v := .int (nI 0)) (ty := .boolean) (C := RX4) (T := TX4) (N := 9) hx hb hts hiX4 tyX4 tyX4_ok nmX4 hown hK hP hD hS 0 rfl rfl 7 (by decide) k48 (fun _ h9 => h9) rfl (by decide +kernel) (rfl) (rfl) (Nat.le_of_ble_eq_true rfl) dX4_leave_28 (fun H locs hP hD hS => ?_)
    have hP : PP G (xw G h (oI x 7 (nI 0)) w23 wa w0 w1 rd wr z jj lt) H := hP
    have hD : va_D A (xw G h (oI x 7 (nI 0)) w23 wa w0 w1 rd wr z jj lt) := hD
    refine lv_iload_n hx hb dX4_leave_31 rfl (lv_at hl 0 rfl) ?_
    exact W.iret (v := nI (n11)) hx hb hr (fun t ht hW => ⟨⟨nI (n11), (oI x 7 (nI 0), w23, wa, w0, w1, rd, wr, z, jj, lt), rfl, ⟨_, _, _, _, _, _, _, _, _, _, rfl, ⟨nva, nla, e23a.trans (hnva), by omega, e23b.trans (hnla), by omega⟩, ⟨nva, nla, hnva, by omega, hnla, by omega⟩, ⟨nv0, nl0, hnv0, by omega, hnl0, by omega⟩, ⟨nv1, nl1, hnv1, by omega, hnl1, by omega⟩, rfl, rfl⟩, show PP G (xw G h (oI x 7 (nI 0)) w23 wa w0 w1 rd wr z jj lt) t.heap by rw [ht]; exact hP⟩, hS.F ht⟩) hS.2.2 dX4_leave_32
  · skip
    refine lv_ldc (v := (-1000000003 : Int32)) hx hb hown (hts (.constant RX4 148 (-1000000003)) (List.mem_of_getElem? (i := 2) rfl)) dX4_leave_7 ?_
    exact W.iret (v := (-1000000003 : Int32)) hx hb hr (fun t ht hW => ⟨⟨(-1000000003 : Int32), (x, wn, wa, w0, w1, rd, wr, z, jj, lt), rfl, ⟨_, _, _, _, _, _, _, _, _, _, rfl, ⟨nv, nl, hnv, by omega, hnl, by omega⟩, ⟨nva, nla, hnva, by omega, hnla, by omega⟩, ⟨nv0, nl0, hnv0, by omega, hnl0, by omega⟩, ⟨nv1, nl1, hnv1, by omega, hnl1, by omega⟩, rfl, rfl⟩, show PP G (xw G h x wn wa w0 w1 rd wr z jj lt) t.heap by rw [ht]; exact hP⟩, hS.F ht⟩) hS.2.2 dX4_leave_9
set_option maxHeartbeats 1000000 in
set_option maxRecDepth 100000 in
theorem mt_X4_driftOneLine (l : Launch) (G : gG) (h : Nat → Nat) (sz : Nat) (x : oS) (wn : oS) (wa : oS) (w0 : oS) (w1 : oS) (rd : oS) (wr : oS) (z : oS) (jj : Nat → Nat → Int64) (lt : Int64) (nv : Nat) (nl : Nat) (hnv : wn.1 0 = nI nv) (hnl : wn.1 5 = nI nl) (hnv24 : nv ≤ 24) (hnl120 : nl ≤ 120) : Met l yX4_driftOneLine wsX4_driftOneLine ({ frames := 4, cells := 0, slots := 0, locals := 96 }) (preW G (xw G h x wn wa w0 w1 rd wr z jj lt) sz [.ref (h 0)]) (va_Qi (fun (r : Int32) (v : oS × oS × oS × oS × oS × oS × oS × oS × (Nat → Nat → Int64) × Int64) => ∃ p y n m, v = (x, p, wa, w0, w1, rd, wr, z, jj, y) ∧ p.1 0 = nI n ∧ n ≤ 24 ∧ p.1 5 = nI m ∧ m ≤ 120 ∧ (r = 0 ∨ r = 1)) (fun v t => PP G (xw G h v.1 v.2.1 v.2.2.1 v.2.2.2.1 v.2.2.2.2.1 v.2.2.2.2.2.1 v.2.2.2.2.2.2.1 v.2.2.2.2.2.2.2.1 v.2.2.2.2.2.2.2.2.1 v.2.2.2.2.2.2.2.2.2) t.heap) (va_A (xw G h x wn wa w0 w1 rd wr z jj lt) sz)) 0 0 (va_A (xw G h x wn wa w0 w1 rd wr z jj lt) sz) := by
  refine Met.ofW (cc := cX4_driftOneLine) (maxL := 4) (ret := (some .boolean)) (by decide) rfl ?_
  intro p e s m args below meth c s₁ B hml hv
  obtain ⟨ha, hsz, hP, hK, hN, hD0⟩ := hv
  subst ha
  have hx := B.exec
  have hb := B.bytes
  have hr := B.returns
  have hts := atoms_spec (ws := wsX4_driftOneLine) B.pre
  have hown : s.vm.findClass RX4 = some m.cls := findClass_of_methodNamed B.named
  have hlocks := B.notSynchronized
  subst hsz
  have hD := hD0.self (sz := s.heap.size)
  generalize hAe : va_A (xw G h x wn wa w0 w1 rd wr z jj lt) s.heap.size = A at hD ⊢
  have hA : ∀ q : Nat, s.heap.size ≤ q → A q := fun q h => by rw [← hAe]; exact Or.inr h
  clear hAe hD0
  have hS : va_S A s.heap s.heap [] := va_S.rf
  have hiX4 : ∀ w ∈ wsX40, w ∈ wsX4_driftOneLine := by decide +kernel
  have k44 := hts (.fieldLink RX4 44 "WovenHistory" "lots" "LWovenHistory$Lots;") (List.mem_of_getElem? (i := 1) rfl)
  have k10 := hts (.fieldLink RX4 10 "WovenHistory" "now" "LWovenHistory$Weave;") (List.mem_of_getElem? (i := 2) rfl)
  have hiX3 : ∀ w ∈ wsX30, w ∈ wsX4_driftOneLine := by decide +kernel
  have k85 : (Cond.fieldLinkNest "WovenHistory" 85 "WovenHistory$Weave" "lines" "I" "WovenHistory").before _ s = true := va_Nw.use (A := ([.ref (h 0)] : List Value).toArray) rfl (hN.1 ("WovenHistory", 85, "WovenHistory$Weave", "lines", "I") (List.mem_of_getElem? (i := 13) rfl))
  have hl := lv_entry ([.ref (h 0)]) (n := 4) (Nat.le_of_ble_eq_true rfl)
  rw [lg_entry_eq]
  generalize (lg_sl ([.ref (h 0)]) ++ List.replicate (4 - (lg_sl ([.ref (h 0)])).length) Slot.unset).toArray = ls at hl ⊢
  have hl : lv_has ls 4 [(0, .ref (h 0))] := hl
  refine lv_aload_n hx hb dX4_driftOneLine_0 rfl (lv_at hl 0 rfl) ?_
  refine va_get (D := gD G) (ci := 4) (v := .ref (h 80)) (C := RX4) (T := TX4) (N := 9) hx hb hts hiX4 hown hK hP 0 rfl rfl 6 (by decide) k44 (fun _ h9 => h9) rfl dX4_driftOneLine_1 ?_
  refine lv_iconst (v := nI 3) hx hb dX4_driftOneLine_4 (by decide) ?_
  refine cWi (As := [.int (nI 3)]) (rest := []) (S := Int64) (wa := xw G h x wn wa w0 w1 rd wr z jj lt) (wc := tv G (fun k => h (80 + k)) lt) (w1 := fun v => tv G (fun k => h (80 + k)) v) (wa' := fun v => xw G h x wn wa w0 w1 rd wr z jj v) ⟨hx, hb, hml, hown, hts⟩ (mt_X0_below l G (fun k => h (80 + k)) _ lt (nI 3)) (cwV 1 hts gX4_driftOneLine_X0_below rfl rfl rfl (by decide +kernel) ⟨Nat.le_of_ble_eq_true rfl, Nat.le_of_ble_eq_true rfl⟩) hK hN hP hD hS hA [54] rfl (by decide) rfl (fun _ => rfl) (fun _ => rfl) (fun _ => rfl) 0 0 rfl rfl rfl hl.1 rfl (Nat.le_of_ble_eq_true rfl) ⟨Nat.zero_le _, Nat.zero_le _⟩ dX4_driftOneLine_5 (fun r5 u5 H locs hw5 hP hD hS => ?_)
  have hP : PP G (xw G h x wn wa w0 w1 rd wr z jj u5) H := hP
  have hD : va_D A (xw G h x wn wa w0 w1 rd wr z jj u5) := hD
  refine lv_iconst (v := nI 2) hx hb dX4_driftOneLine_8 (by decide) ?_
  refine lv_icmp_ne (tgt := 16) hx hb dX4_driftOneLine_9 (by decide) (fun c9 => ?_) (fun c9 => ?_)
  · skip
    refine lv_iconst (v := nI 0) hx hb dX4_driftOneLine_16 (by decide) ?_
    refine lv_istore_n (lv' := [(1, .int (nI 0)), (0, .ref (h 0))]) hx hb dX4_driftOneLine_17 rfl hl (by decide) rfl (fun ls hl => ?_)
    refine lv_aload_n hx hb dX4_driftOneLine_18 rfl (lv_at hl 1 rfl) ?_
    refine cRi (w := xw G h x wn wa w0 w1 rd wr z jj u5) (As := []) (rest := []) ⟨hx, hb, hml, hown, hts⟩ (mt_X4_openLines l G h x wn wa w0 w1 rd wr z jj u5 nv nl (hnv) (hnl) (by first | assumption | omega) (by first | assumption | omega)) (cwV 0 hts gX4_driftOneLine_X4_openLines rfl rfl rfl (by decide +kernel) ⟨Nat.le_of_ble_eq_true rfl, Nat.le_of_ble_eq_true rfl⟩) hK hN hP 0 4 rfl rfl rfl hl.1 rfl (Nat.le_of_ble_eq_true rfl) ⟨Nat.zero_le _, Nat.zero_le _⟩ dX4_driftOneLine_19 (fun r19 hw19 => ?_)
    obtain ⟨n19, hn19, rfl⟩ := hw19
    refine lv_istore_n (lv' := [(2, .int (nI (n19))), (1, .int (nI 0)), (0, .ref (h 0))]) hx hb dX4_driftOneLine_22 rfl hl (by decide) rfl (fun ls hl => ?_)
    refine lv_iload_n hx hb dX4_driftOneLine_23 rfl (lv_at hl 1 rfl) ?_
    refine lv_if_eq (tgt := 49) hx hb dX4_driftOneLine_24 (by decide) (fun _ => ?_) (fun c9 => absurd (by decide) c9)
    refine lv_aload_n hx hb dX4_driftOneLine_49 rfl (lv_at hl 2 rfl) ?_
    refine va_get (D := gD G) (ci := 4) (v := .ref (h 10)) (C := RX4) (T := TX4) (N := 9) hx hb hts hiX4 hown hK hP 0 rfl rfl 0 (by decide) k10 (fun _ h9 => h9) rfl dX4_driftOneLine_50 ?_
    refine va_getN (D := gD G) (ci := 3) (v := .int (wn.1 5)) (C := RX3) (T := TX3) (N := 9) hx hb hts hiX3 hown hK hP 3 rfl rfl 5 (by decide) k85 (fun _ h9 => h9) rfl dX4_driftOneLine_53 ?_
    refine topE hnl ?_
    refine lv_bipush (v := nI 120) hx hb dX4_driftOneLine_56 (by decide) ?_
    refine lv_icmp_lt (tgt := 63) hx hb dX4_driftOneLine_58 (by decide) (fun c58 => ?_) (fun c58 => ?_)
    · skip
      have n58 : nl < 120 := (nI_ltI (a := nl) (b := 120) (by omega) (by omega)).mp c58
      refine lv_bipush (v := nI 65) hx hb dX4_driftOneLine_63 (by decide) ?_
      refine lv_aload_n hx hb dX4_driftOneLine_65 rfl (lv_at hl 2 rfl) ?_
      refine va_get (D := gD G) (ci := 4) (v := .ref (h 80)) (C := RX4) (T := TX4) (N := 9) hx hb hts hiX4 hown hK hP 0 rfl rfl 6 (by decide) k44 (fun _ h9 => h9) rfl dX4_driftOneLine_66 ?_
      refine lv_bipush (v := nI 26) hx hb dX4_driftOneLine_69 (by decide) ?_
      refine cWi (As := [.int (nI 26)]) (rest := [.int (nI 65)]) (S := Int64) (wa := xw G h x wn wa w0 w1 rd wr z jj u5) (wc := tv G (fun k => h (80 + k)) u5) (w1 := fun v => tv G (fun k => h (80 + k)) v) (wa' := fun v => xw G h x wn wa w0 w1 rd wr z jj v) ⟨hx, hb, hml, hown, hts⟩ (mt_X0_below l G (fun k => h (80 + k)) _ u5 (nI 26)) (cwV 1 hts gX4_driftOneLine_X0_below rfl rfl rfl (by decide +kernel) ⟨Nat.le_of_ble_eq_true rfl, Nat.le_of_ble_eq_true rfl⟩) hK hN hP hD hS hA [54] rfl (by decide) rfl (fun _ => rfl) (fun _ => rfl) (fun _ => rfl) 0 0 rfl rfl rfl hl.1 rfl (Nat.le_of_ble_eq_true rfl) ⟨Nat.zero_le _, Nat.zero_le _⟩ dX4_driftOneLine_71 (fun r71 u71 H locs hw71 hP hD hS => ?_)
      have hP : PP G (xw G h x wn wa w0 w1 rd wr z jj u71) H := hP
      have hD : va_D A (xw G h x wn wa w0 w1 rd wr z jj u71) := hD
      refine lv_iadd hx hb dX4_driftOneLine_74 ?_
      refine lv_istore_n (lv' := [(3, .int ((nI 65) + r71)), (2, .int (nI (n19))), (1, .int (nI 0)), (0, .ref (h 0))]) hx hb dX4_driftOneLine_75 rfl hl (by decide) rfl (fun ls hl => ?_)
      refine lv_aload_n hx hb dX4_driftOneLine_76 rfl (lv_at hl 3 rfl) ?_
      refine va_get (D := gD G) (ci := 4) (v := .ref (h 10)) (C := RX4) (T := TX4) (N := 9) hx hb hts hiX4 hown hK hP 0 rfl rfl 0 (by decide) k10 (fun _ h9 => h9) rfl dX4_driftOneLine_77 ?_
      refine lv_aload_n hx hb dX4_driftOneLine_80 rfl (lv_at hl 3 rfl) ?_
      refine va_get (D := gD G) (ci := 4) (v := .ref (h 80)) (C := RX4) (T := TX4) (N := 9) hx hb hts hiX4 hown hK hP 0 rfl rfl 6 (by decide) k44 (fun _ h9 => h9) rfl dX4_driftOneLine_81 ?_
      refine lv_iload_n hx hb dX4_driftOneLine_84 rfl (lv_at hl 1 rfl) ?_
      refine lv_iconst (v := nI 1) hx hb dX4_driftOneLine_85 (by decide) ?_
      refine lv_iadd hx hb dX4_driftOneLine_86 ?_
      refine topE (y := nI (n19 + 1)) (nI_add n19 1) ?_
      refine cWi (As := [.int (nI (n19 + 1))]) (rest := [.ref (h 10)]) (S := Int64) (wa := xw G h x wn wa w0 w1 rd wr z jj u71) (wc := tv G (fun k => h (80 + k)) u71) (w1 := fun v => tv G (fun k => h (80 + k)) v) (wa' := fun v => xw G h x wn wa w0 w1 rd wr z jj v) ⟨hx, hb, hml, hown, hts⟩ (mt_X0_below l G (fun k => h (80 + k)) _ u71 (nI (n19 + 1))) (cwV 1 hts gX4_driftOneLine_X0_below rfl rfl rfl (by decide +kernel) ⟨Nat.le_of_ble_eq_true rfl, Nat.le_of_ble_eq_true rfl⟩) hK hN hP hD hS hA [54] rfl (by decide) rfl (fun _ => rfl) (fun _ => rfl) (fun _ => rfl) 0 0 rfl rfl rfl hl.1 rfl (Nat.le_of_ble_eq_true rfl) ⟨Nat.zero_le _, Nat.zero_le _⟩ dX4_driftOneLine_87 (fun r87 u87 H locs hw87 hP hD hS => ?_)
      have hP : PP G (xw G h x wn wa w0 w1 rd wr z jj u87) H := hP
      have hD : va_D A (xw G h x wn wa w0 w1 rd wr z jj u87) := hD
      refine lv_iload_n hx hb dX4_driftOneLine_90 rfl (lv_at hl 0 rfl) ?_
      refine cWi (As := [.int r87, .int ((nI 65) + r71)]) (rest := []) (S := oS) (wa := xw G h x wn wa w0 w1 rd wr z jj u87) (wc := wv G (fun k => h (10 + k)) wn) (w1 := fun v => wv G (fun k => h (10 + k)) v) (wa' := fun v => xw G h x v wa w0 w1 rd wr z jj u87) ⟨hx, hb, hml, hown, hts⟩ (mt_X3_putByNext l G (fun k => h (10 + k)) _ wn nv nl r87 ((nI 65) + r71) (hnv) (hnl) (by first | assumption | omega) (by first | assumption | omega)) (cwV 2 hts gX4_driftOneLine_X3_putByNext rfl rfl rfl (by decide +kernel) ⟨Nat.le_of_ble_eq_true rfl, Nat.le_of_ble_eq_true rfl⟩) hK hN hP hD hS hA [3, 4, 5, 6, 7, 8, 9, 10] rfl (by decide) rfl (fun _ => rfl) (fun _ => rfl) (fun _ => rfl) 0 3 rfl rfl rfl hl.1 rfl (Nat.le_of_ble_eq_true rfl) ⟨Nat.zero_le _, Nat.zero_le _⟩ dX4_driftOneLine_91 (fun r91 u91 H locs hw91 hP hD hS => ?_)
      obtain ⟨hR91, n91, hn91, en91⟩ := hw91
      have hP : PP G (xw G h x u91 wa w0 w1 rd wr z jj u87) H := hP
      have hD : va_D A (xw G h x u91 wa w0 w1 rd wr z jj u87) := hD
      refine lv_pop hx hb dX4_driftOneLine_94 rfl ?_
      refine lv_iconst (v := nI 1) hx hb dX4_driftOneLine_95 (by decide) ?_
      exact W.zret (v := nI 1) hx hb hr (by decide) (fun t ht hW => ⟨⟨nI 1, (x, u91, wa, w0, w1, rd, wr, z, jj, u87), rfl, ⟨_, _, nv, n91, rfl, (hR91.1 0 (by decide)).trans (hnv), by omega, en91, by omega, by first | exact Or.inl rfl | exact Or.inr rfl | assumption⟩, show PP G (xw G h x u91 wa w0 w1 rd wr z jj u87) t.heap by rw [ht]; exact hP⟩, hS.F ht⟩) hS.2.2 dX4_driftOneLine_96
    · skip
      have n58 : ¬ (nl < 120) := fun q9 => c58 ((nI_ltI (a := nl) (b := 120) (by omega) (by omega)).mpr q9)
      refine lv_iconst (v := nI 0) hx hb dX4_driftOneLine_61 (by decide) ?_
      exact W.zret (v := nI 0) hx hb hr (by decide) (fun t ht hW => ⟨⟨nI 0, (x, wn, wa, w0, w1, rd, wr, z, jj, u5), rfl, ⟨_, _, nv, nl, rfl, hnv, by omega, hnl, by omega, by first | exact Or.inl rfl | exact Or.inr rfl | assumption⟩, show PP G (xw G h x wn wa w0 w1 rd wr z jj u5) t.heap by rw [ht]; exact hP⟩, hS.F ht⟩) hS.2.2 dX4_driftOneLine_62
  · skip
    refine lv_iconst (v := nI 1) hx hb dX4_driftOneLine_12 (by decide) ?_
    refine lv_goto (tgt := 17) hx hb dX4_driftOneLine_13 (by decide) ?_
    refine lv_istore_n (lv' := [(1, .int (nI 1)), (0, .ref (h 0))]) hx hb dX4_driftOneLine_17 rfl hl (by decide) rfl (fun ls hl => ?_)
    refine lv_aload_n hx hb dX4_driftOneLine_18 rfl (lv_at hl 1 rfl) ?_
    refine cRi (w := xw G h x wn wa w0 w1 rd wr z jj u5) (As := []) (rest := []) ⟨hx, hb, hml, hown, hts⟩ (mt_X4_openLines l G h x wn wa w0 w1 rd wr z jj u5 nv nl (hnv) (hnl) (by first | assumption | omega) (by first | assumption | omega)) (cwV 0 hts gX4_driftOneLine_X4_openLines rfl rfl rfl (by decide +kernel) ⟨Nat.le_of_ble_eq_true rfl, Nat.le_of_ble_eq_true rfl⟩) hK hN hP 0 4 rfl rfl rfl hl.1 rfl (Nat.le_of_ble_eq_true rfl) ⟨Nat.zero_le _, Nat.zero_le _⟩ dX4_driftOneLine_19 (fun r19 hw19 => ?_)
    obtain ⟨n19, hn19, rfl⟩ := hw19
    refine lv_istore_n (lv' := [(2, .int (nI (n19))), (1, .int (nI 1)), (0, .ref (h 0))]) hx hb dX4_driftOneLine_22 rfl hl (by decide) rfl (fun ls hl => ?_)
    refine lv_iload_n hx hb dX4_driftOneLine_23 rfl (lv_at hl 1 rfl) ?_
    refine lv_if_eq (tgt := 49) hx hb dX4_driftOneLine_24 (by decide) (fun c9 => absurd c9 (by decide)) (fun _ => ?_)
    refine lv_iload_n hx hb dX4_driftOneLine_27 rfl (lv_at hl 0 rfl) ?_
    refine lv_if_le (tgt := 47) hx hb dX4_driftOneLine_28 (by decide) (fun c28 => ?_) (fun c28 => ?_)
    · skip
      have n28 : n19 ≤ 0 := (nI_leI (a := n19) (b := 0) (by omega) (by omega)).mp c28
      refine lv_iconst (v := nI 1) hx hb dX4_driftOneLine_47 (by decide) ?_
      exact W.zret (v := nI 1) hx hb hr (by decide) (fun t ht hW => ⟨⟨nI 1, (x, wn, wa, w0, w1, rd, wr, z, jj, u5), rfl, ⟨_, _, nv, nl, rfl, hnv, by omega, hnl, by omega, by first | exact Or.inl rfl | exact Or.inr rfl | assumption⟩, show PP G (xw G h x wn wa w0 w1 rd wr z jj u5) t.heap by rw [ht]; exact hP⟩, hS.F ht⟩) hS.2.2 dX4_driftOneLine_48
    · skip
      have n28 : ¬ (n19 ≤ 0) := fun q9 => c28 ((nI_leI (a := n19) (b := 0) (by omega) (by omega)).mpr q9)
      refine lv_aload_n hx hb dX4_driftOneLine_31 rfl (lv_at hl 2 rfl) ?_
      refine va_get (D := gD G) (ci := 4) (v := .ref (h 10)) (C := RX4) (T := TX4) (N := 9) hx hb hts hiX4 hown hK hP 0 rfl rfl 0 (by decide) k10 (fun _ h9 => h9) rfl dX4_driftOneLine_32 ?_
      refine lv_aload_n hx hb dX4_driftOneLine_35 rfl (lv_at hl 2 rfl) ?_
      refine va_get (D := gD G) (ci := 4) (v := .ref (h 80)) (C := RX4) (T := TX4) (N := 9) hx hb hts hiX4 hown hK hP 0 rfl rfl 6 (by decide) k44 (fun _ h9 => h9) rfl dX4_driftOneLine_36 ?_
      refine lv_iload_n hx hb dX4_driftOneLine_39 rfl (lv_at hl 0 rfl) ?_
      refine cWi (As := [.int (nI (n19))]) (rest := [.ref (h 10)]) (S := Int64) (wa := xw G h x wn wa w0 w1 rd wr z jj u5) (wc := tv G (fun k => h (80 + k)) u5) (w1 := fun v => tv G (fun k => h (80 + k)) v) (wa' := fun v => xw G h x wn wa w0 w1 rd wr z jj v) ⟨hx, hb, hml, hown, hts⟩ (mt_X0_below l G (fun k => h (80 + k)) _ u5 (nI (n19))) (cwV 1 hts gX4_driftOneLine_X0_below rfl rfl rfl (by decide +kernel) ⟨Nat.le_of_ble_eq_true rfl, Nat.le_of_ble_eq_true rfl⟩) hK hN hP hD hS hA [54] rfl (by decide) rfl (fun _ => rfl) (fun _ => rfl) (fun _ => rfl) 0 0 rfl rfl rfl hl.1 rfl (Nat.le_of_ble_eq_true rfl) ⟨Nat.zero_le _, Nat.zero_le _⟩ dX4_driftOneLine_40 (fun r40 u40 H locs hw40 hP hD hS => ?_)
      have hP : PP G (xw G h x wn wa w0 w1 rd wr z jj u40) H := hP
      have hD : va_D A (xw G h x wn wa w0 w1 rd wr z jj u40) := hD
      refine cWi (As := [.int r40]) (rest := []) (S := oS) (wa := xw G h x wn wa w0 w1 rd wr z jj u40) (wc := wv G (fun k => h (10 + k)) wn) (w1 := fun v => wv G (fun k => h (10 + k)) v) (wa' := fun v => xw G h x v wa w0 w1 rd wr z jj u40) ⟨hx, hb, hml, hown, hts⟩ (mt_X3_takeByNext l G (fun k => h (10 + k)) _ wn nv nl r40 (hnv) (hnl) (by first | assumption | omega) (by first | assumption | omega)) (cwV 1 hts gX4_driftOneLine_X3_takeByNext rfl rfl rfl (by decide +kernel) ⟨Nat.le_of_ble_eq_true rfl, Nat.le_of_ble_eq_true rfl⟩) hK hN hP hD hS hA [3, 4, 5, 6, 7, 8, 9, 10] rfl (by decide) rfl (fun _ => rfl) (fun _ => rfl) (fun _ => rfl) 0 3 rfl rfl rfl hl.1 rfl (Nat.le_of_ble_eq_true rfl) ⟨Nat.zero_le _, Nat.zero_le _⟩ dX4_driftOneLine_43 (fun r43 u43 H locs hw43 hP hD hS => ?_)
      obtain ⟨hR43, n43, hn43, en43⟩ := hw43
      have hP : PP G (xw G h x u43 wa w0 w1 rd wr z jj u40) H := hP
      have hD : va_D A (xw G h x u43 wa w0 w1 rd wr z jj u40) := hD
      refine lv_pop hx hb dX4_driftOneLine_46 rfl ?_
      refine lv_iconst (v := nI 1) hx hb dX4_driftOneLine_47 (by decide) ?_
      exact W.zret (v := nI 1) hx hb hr (by decide) (fun t ht hW => ⟨⟨nI 1, (x, u43, wa, w0, w1, rd, wr, z, jj, u40), rfl, ⟨_, _, nv, n43, rfl, (hR43.1 0 (by decide)).trans (hnv), by omega, en43, by omega, by first | exact Or.inl rfl | exact Or.inr rfl | assumption⟩, show PP G (xw G h x u43 wa w0 w1 rd wr z jj u40) t.heap by rw [ht]; exact hP⟩, hS.F ht⟩) hS.2.2 dX4_driftOneLine_48
set_option maxHeartbeats 1000000 in
set_option maxRecDepth 100000 in
theorem mt_X4_driftOneVersion (l : Launch) (G : gG) (h : Nat → Nat) (sz : Nat) (x : oS) (wn : oS) (wa : oS) (w0 : oS) (w1 : oS) (rd : oS) (wr : oS) (z : oS) (jj : Nat → Nat → Int64) (lt : Int64) (nv : Nat) (nl : Nat) (hnv : wn.1 0 = nI nv) (hnl : wn.1 5 = nI nl) (hnv24 : nv ≤ 24) (hnl120 : nl ≤ 120) : Met l yX4_driftOneVersion wsX4_driftOneVersion ({ frames := 5, cells := 0, slots := 0, locals := 119 }) (preW G (xw G h x wn wa w0 w1 rd wr z jj lt) sz [.ref (h 0)]) (va_Qi (fun (r : Int32) (v : oS × oS × oS × oS × oS × oS × oS × oS × (Nat → Nat → Int64) × Int64) => ∃ p y n m, v = (x, p, wa, w0, w1, rd, wr, z, jj, y) ∧ p.1 0 = nI n ∧ n ≤ 24 ∧ p.1 5 = nI m ∧ m ≤ 120 ∧ (r = 0 ∨ r = 1)) (fun v t => PP G (xw G h v.1 v.2.1 v.2.2.1 v.2.2.2.1 v.2.2.2.2.1 v.2.2.2.2.2.1 v.2.2.2.2.2.2.1 v.2.2.2.2.2.2.2.1 v.2.2.2.2.2.2.2.2.1 v.2.2.2.2.2.2.2.2.2) t.heap) (va_A (xw G h x wn wa w0 w1 rd wr z jj lt) sz)) 0 0 (va_A (xw G h x wn wa w0 w1 rd wr z jj lt) sz) := by
  refine Met.ofW (cc := cX4_driftOneVersion) (maxL := 3) (ret := (some .boolean)) (by decide) rfl ?_
  intro p e s m args below meth c s₁ B hml hv
  obtain ⟨ha, hsz, hP, hK, hN, hD0⟩ := hv
  subst ha
  have hx := B.exec
  have hb := B.bytes
  have hr := B.returns
  have hts := atoms_spec (ws := wsX4_driftOneVersion) B.pre
  have hown : s.vm.findClass RX4 = some m.cls := findClass_of_methodNamed B.named
  have hlocks := B.notSynchronized
  subst hsz
  have hD := hD0.self (sz := s.heap.size)
  generalize hAe : va_A (xw G h x wn wa w0 w1 rd wr z jj lt) s.heap.size = A at hD ⊢
  have hA : ∀ q : Nat, s.heap.size ≤ q → A q := fun q h => by rw [← hAe]; exact Or.inr h
  clear hAe hD0
  have hS : va_S A s.heap s.heap [] := va_S.rf
  have hiX4 : ∀ w ∈ wsX40, w ∈ wsX4_driftOneVersion := by decide +kernel
  have k10 := hts (.fieldLink RX4 10 "WovenHistory" "now" "LWovenHistory$Weave;") (List.mem_of_getElem? (i := 1) rfl)
  have hiX3 : ∀ w ∈ wsX30, w ∈ wsX4_driftOneVersion := by decide +kernel
  have k82 : (Cond.fieldLinkNest "WovenHistory" 82 "WovenHistory$Weave" "versions" "I" "WovenHistory").before _ s = true := va_Nw.use (A := ([.ref (h 0)] : List Value).toArray) rfl (hN.1 ("WovenHistory", 82, "WovenHistory$Weave", "versions", "I") (List.mem_of_getElem? (i := 12) rfl))
  have k44 := hts (.fieldLink RX4 44 "WovenHistory" "lots" "LWovenHistory$Lots;") (List.mem_of_getElem? (i := 2) rfl)
  have hl := lv_entry ([.ref (h 0)]) (n := 3) (Nat.le_of_ble_eq_true rfl)
  rw [lg_entry_eq]
  generalize (lg_sl ([.ref (h 0)]) ++ List.replicate (3 - (lg_sl ([.ref (h 0)])).length) Slot.unset).toArray = ls at hl ⊢
  have hl : lv_has ls 3 [(0, .ref (h 0))] := hl
  refine lv_aload_n hx hb dX4_driftOneVersion_0 rfl (lv_at hl 0 rfl) ?_
  refine va_get (D := gD G) (ci := 4) (v := .ref (h 10)) (C := RX4) (T := TX4) (N := 9) hx hb hts hiX4 hown hK hP 0 rfl rfl 0 (by decide) k10 (fun _ h9 => h9) rfl dX4_driftOneVersion_1 ?_
  refine va_getN (D := gD G) (ci := 3) (v := .int (wn.1 0)) (C := RX3) (T := TX3) (N := 9) hx hb hts hiX3 hown hK hP 3 rfl rfl 0 (by decide) k82 (fun _ h9 => h9) rfl dX4_driftOneVersion_4 ?_
  refine topE hnv ?_
  refine lv_bipush (v := nI 24) hx hb dX4_driftOneVersion_7 (by decide) ?_
  refine lv_icmp_lt (tgt := 14) hx hb dX4_driftOneVersion_9 (by decide) (fun c9 => ?_) (fun c9 => ?_)
  · skip
    have n9 : nv < 24 := (nI_ltI (a := nv) (b := 24) (by omega) (by omega)).mp c9
    refine lv_aload_n hx hb dX4_driftOneVersion_14 rfl (lv_at hl 0 rfl) ?_
    refine va_get (D := gD G) (ci := 4) (v := .ref (h 10)) (C := RX4) (T := TX4) (N := 9) hx hb hts hiX4 hown hK hP 0 rfl rfl 0 (by decide) k10 (fun _ h9 => h9) rfl dX4_driftOneVersion_15 ?_
    refine lv_aload_n hx hb dX4_driftOneVersion_18 rfl (lv_at hl 0 rfl) ?_
    refine va_get (D := gD G) (ci := 4) (v := .ref (h 80)) (C := RX4) (T := TX4) (N := 9) hx hb hts hiX4 hown hK hP 0 rfl rfl 6 (by decide) k44 (fun _ h9 => h9) rfl dX4_driftOneVersion_19 ?_
    refine lv_aload_n hx hb dX4_driftOneVersion_22 rfl (lv_at hl 0 rfl) ?_
    refine va_get (D := gD G) (ci := 4) (v := .ref (h 10)) (C := RX4) (T := TX4) (N := 9) hx hb hts hiX4 hown hK hP 0 rfl rfl 0 (by decide) k10 (fun _ h9 => h9) rfl dX4_driftOneVersion_23 ?_
    refine va_getN (D := gD G) (ci := 3) (v := .int (wn.1 0)) (C := RX3) (T := TX3) (N := 9) hx hb hts hiX3 hown hK hP 3 rfl rfl 0 (by decide) k82 (fun _ h9 => h9) rfl dX4_driftOneVersion_26 ?_
    refine topE hnv ?_
    refine cWi (As := [.int (nI nv)]) (rest := [.ref (h 10)]) (S := Int64) (wa := xw G h x wn wa w0 w1 rd wr z jj lt) (wc := tv G (fun k => h (80 + k)) lt) (w1 := fun v => tv G (fun k => h (80 + k)) v) (wa' := fun v => xw G h x wn wa w0 w1 rd wr z jj v) ⟨hx, hb, hml, hown, hts⟩ (mt_X0_below l G (fun k => h (80 + k)) _ lt (nI nv)) (cwV 1 hts gX4_driftOneVersion_X0_below rfl rfl rfl (by decide +kernel) ⟨Nat.le_of_ble_eq_true rfl, Nat.le_of_ble_eq_true rfl⟩) hK hN hP hD hS hA [54] rfl (by decide) rfl (fun _ => rfl) (fun _ => rfl) (fun _ => rfl) 0 0 rfl rfl rfl hl.1 rfl (Nat.le_of_ble_eq_true rfl) ⟨Nat.zero_le _, Nat.zero_le _⟩ dX4_driftOneVersion_29 (fun r29 u29 H locs hw29 hP hD hS => ?_)
    have hP : PP G (xw G h x wn wa w0 w1 rd wr z jj u29) H := hP
    have hD : va_D A (xw G h x wn wa w0 w1 rd wr z jj u29) := hD
    refine lv_iconst (v := nI 0) hx hb dX4_driftOneVersion_32 (by decide) ?_
    refine lv_iconst (v := nI 0) hx hb dX4_driftOneVersion_33 (by decide) ?_
    refine cWv (As := [.int r29, .int (nI 0), .int (nI 0)]) (rest := []) (S := oS) (wa := xw G h x wn wa w0 w1 rd wr z jj u29) (wc := wv G (fun k => h (10 + k)) wn) (w1 := fun v => wv G (fun k => h (10 + k)) v) (wa' := fun v => xw G h x v wa w0 w1 rd wr z jj u29) ⟨hx, hb, hml, hown, hts⟩ (mt_X3_beginVersion l G (fun k => h (10 + k)) _ wn nv r29 (nI 0) (nI 0) (hnv) (by first | assumption | omega)) (cwV 3 hts gX4_driftOneVersion_X3_beginVersion rfl rfl rfl (by decide +kernel) ⟨Nat.le_of_ble_eq_true rfl, Nat.le_of_ble_eq_true rfl⟩) hK hN hP hD hS hA [3, 4, 5, 6, 7, 8, 9, 10] rfl (by decide) rfl (fun _ => rfl) (fun _ => rfl) (fun _ => rfl) 0 3 rfl rfl rfl hl.1 rfl (Nat.le_of_ble_eq_true rfl) ⟨Nat.zero_le _, Nat.zero_le _⟩ dX4_driftOneVersion_34 (fun u34 H locs hw34 hP hD hS => ?_)
    have hR34 := hw34
    have hP : PP G (xw G h x u34 wa w0 w1 rd wr z jj u29) H := hP
    have hD : va_D A (xw G h x u34 wa w0 w1 rd wr z jj u29) := hD
    refine lv_iconst (v := nI 1) hx hb dX4_driftOneVersion_37 (by decide) ?_
    refine lv_istore_n (lv' := [(1, .int (nI 1)), (0, .ref (h 0))]) hx hb dX4_driftOneVersion_38 rfl hl (by decide) rfl (fun ls hl => ?_)
    refine lv_iconst (v := nI 0) hx hb dX4_driftOneVersion_39 (by decide) ?_
    refine lv_istore_n (lv' := [(2, .int (nI 0)), (1, .int (nI 1)), (0, .ref (h 0))]) hx hb dX4_driftOneVersion_40 rfl hl (by decide) rfl (fun ls hl => ?_)
    have LP41 : ∀ (n41m : Nat), ∀ (k : Nat) (x1 : Int32) (pw : oS) (y : Int64) (n : Nat) (mq : Nat) (hk : k ≤ 3) (en : pw.1 0 = nI n) (hn : n ≤ 24) (em : pw.1 5 = nI mq) (hm : mq ≤ 120) (hx01 : x1 = 0 ∨ x1 = 1), (3 - k < n41m) → ∀ (H : Heap) (locs : List Loc) (ls : Array Slot), PP G (xw G h x pw wa w0 w1 rd wr z jj y) H → va_D A (xw G h x pw wa w0 w1 rd wr z jj y) → va_S A s.heap H locs → lv_has ls 3 [(0, .ref (h 0)), (1, .int x1), (2, .int (nI k))] → W p l e (headSpec wsX4_driftOneVersion ({ frames := 5, cells := 0, slots := 0, locals := 119 })).room s m ([.ref (h 0)] : List Value).toArray below meth c H locs 0 0 (MQ below (va_Qi (fun (r : Int32) (v : oS × oS × oS × oS × oS × oS × oS × oS × (Nat → Nat → Int64) × Int64) => ∃ p y n m, v = (x, p, wa, w0, w1, rd, wr, z, jj, y) ∧ p.1 0 = nI n ∧ n ≤ 24 ∧ p.1 5 = nI m ∧ m ≤ 120 ∧ (r = 0 ∨ r = 1)) (fun v t => PP G (xw G h v.1 v.2.1 v.2.2.1 v.2.2.2.1 v.2.2.2.2.1 v.2.2.2.2.2.1 v.2.2.2.2.2.2.1 v.2.2.2.2.2.2.2.1 v.2.2.2.2.2.2.2.2.1 v.2.2.2.2.2.2.2.2.2) t.heap) A) ([.ref (h 0)] : List Value).toArray s 0 0 A) (F0 m 41 ls []) := by
      intro n41m
      induction n41m with
      | zero => intro k x1 pw y n mq hk en hn em hm hx01 hmu H locs ls hP hD hS hl; exact absurd hmu (Nat.not_lt_zero _)
      | succ n41m ih41 =>
        intro k x1 pw y n mq hk en hn em hm hx01 hmu H locs ls hP hD hS hl
        refine lv_iload_n hx hb dX4_driftOneVersion_41 rfl (lv_at hl 2 rfl) ?_
        refine lv_iconst (v := nI 3) hx hb dX4_driftOneVersion_42 (by decide) ?_
        refine lv_icmp_ge (tgt := 61) hx hb dX4_driftOneVersion_43 (by decide) (fun c43 => ?_) (fun c43 => ?_)
        · skip
          have n43 : 3 ≤ k := (nI_leI (a := 3) (b := k) (by omega) (by omega)).mp c43
          refine lv_aload_n hx hb dX4_driftOneVersion_61 rfl (lv_at hl 0 rfl) ?_
          refine va_get (D := gD G) (ci := 4) (v := .ref (h 10)) (C := RX4) (T := TX4) (N := 9) hx hb hts hiX4 hown hK hP 0 rfl rfl 0 (by decide) k10 (fun _ h9 => h9) rfl dX4_driftOneVersion_62 ?_
          refine cWv (As := []) (rest := []) (S := oS) (wa := xw G h x pw wa w0 w1 rd wr z jj y) (wc := wv G (fun k => h (10 + k)) pw) (w1 := fun v => wv G (fun k => h (10 + k)) v) (wa' := fun v => xw G h x v wa w0 w1 rd wr z jj y) ⟨hx, hb, hml, hown, hts⟩ (mt_X3_finishVersion l G (fun k => h (10 + k)) _ pw n (en) (by first | assumption | omega)) (cwV 0 hts gX4_driftOneVersion_X3_finishVersion rfl rfl rfl (by decide +kernel) ⟨Nat.le_of_ble_eq_true rfl, Nat.le_of_ble_eq_true rfl⟩) hK hN hP hD hS hA [3, 4, 5, 6, 7, 8, 9, 10] rfl (by decide) rfl (fun _ => rfl) (fun _ => rfl) (fun _ => rfl) 0 3 rfl rfl rfl hl.1 rfl (Nat.le_of_ble_eq_true rfl) ⟨Nat.zero_le _, Nat.zero_le _⟩ dX4_driftOneVersion_65 (fun u65 H locs hw65 hP hD hS => ?_)
          obtain ⟨n65, hn65, rfl⟩ := hw65
          have hP : PP G (xw G h x (oI pw 0 (nI n65)) wa w0 w1 rd wr z jj y) H := hP
          have hD : va_D A (xw G h x (oI pw 0 (nI n65)) wa w0 w1 rd wr z jj y) := hD
          refine lv_iload_n hx hb dX4_driftOneVersion_68 rfl (lv_at hl 1 rfl) ?_
          exact W.zret (v := x1) hx hb hr (nar01 (by assumption)) (fun t ht hW => ⟨⟨x1, (x, oI pw 0 (nI n65), wa, w0, w1, rd, wr, z, jj, y), rfl, ⟨_, _, n65, mq, rfl, rfl, by omega, em, by omega, by first | exact Or.inl rfl | exact Or.inr rfl | assumption⟩, show PP G (xw G h x (oI pw 0 (nI n65)) wa w0 w1 rd wr z jj y) t.heap by rw [ht]; exact hP⟩, hS.F ht⟩) hS.2.2 dX4_driftOneVersion_69
        · skip
          have n43 : ¬ (3 ≤ k) := fun q9 => c43 ((nI_leI (a := 3) (b := k) (by omega) (by omega)).mpr q9)
          refine lv_iload_n hx hb dX4_driftOneVersion_46 rfl (lv_at hl 1 rfl) ?_
          refine lv_if_eq (tgt := 61) hx hb dX4_driftOneVersion_47 (by decide) (fun c47 => ?_) (fun c47 => ?_)
          · skip
            refine lv_aload_n hx hb dX4_driftOneVersion_61 rfl (lv_at hl 0 rfl) ?_
            refine va_get (D := gD G) (ci := 4) (v := .ref (h 10)) (C := RX4) (T := TX4) (N := 9) hx hb hts hiX4 hown hK hP 0 rfl rfl 0 (by decide) k10 (fun _ h9 => h9) rfl dX4_driftOneVersion_62 ?_
            refine cWv (As := []) (rest := []) (S := oS) (wa := xw G h x pw wa w0 w1 rd wr z jj y) (wc := wv G (fun k => h (10 + k)) pw) (w1 := fun v => wv G (fun k => h (10 + k)) v) (wa' := fun v => xw G h x v wa w0 w1 rd wr z jj y) ⟨hx, hb, hml, hown, hts⟩ (mt_X3_finishVersion l G (fun k => h (10 + k)) _ pw n (en) (by first | assumption | omega)) (cwV 0 hts gX4_driftOneVersion_X3_finishVersion rfl rfl rfl (by decide +kernel) ⟨Nat.le_of_ble_eq_true rfl, Nat.le_of_ble_eq_true rfl⟩) hK hN hP hD hS hA [3, 4, 5, 6, 7, 8, 9, 10] rfl (by decide) rfl (fun _ => rfl) (fun _ => rfl) (fun _ => rfl) 0 3 rfl rfl rfl hl.1 rfl (Nat.le_of_ble_eq_true rfl) ⟨Nat.zero_le _, Nat.zero_le _⟩ dX4_driftOneVersion_65 (fun u65 H locs hw65 hP hD hS => ?_)
            obtain ⟨n65, hn65, rfl⟩ := hw65
            have hP : PP G (xw G h x (oI pw 0 (nI n65)) wa w0 w1 rd wr z jj y) H := hP
            have hD : va_D A (xw G h x (oI pw 0 (nI n65)) wa w0 w1 rd wr z jj y) := hD
            refine lv_iload_n hx hb dX4_driftOneVersion_68 rfl (lv_at hl 1 rfl) ?_
            exact W.zret (v := x1) hx hb hr (nar01 (by assumption)) (fun t ht hW => ⟨⟨x1, (x, oI pw 0 (nI n65), wa, w0, w1, rd, wr, z, jj, y), rfl, ⟨_, _, n65, mq, rfl, rfl, by omega, em, by omega, by first | exact Or.inl rfl | exact Or.inr rfl | assumption⟩, show PP G (xw G h x (oI pw 0 (nI n65)) wa w0 w1 rd wr z jj y) t.heap by rw [ht]; exact hP⟩, hS.F ht⟩) hS.2.2 dX4_driftOneVersion_69
          · skip
            refine lv_aload_n hx hb dX4_driftOneVersion_50 rfl (lv_at hl 0 rfl) ?_
            refine cXi (As := []) (rest := []) (S := oS × oS × oS × oS × oS × oS × oS × oS × (Nat → Nat → Int64) × Int64) (wa := xw G h x pw wa w0 w1 rd wr z jj y) (w1 := fun v => xw G h v.1 v.2.1 v.2.2.1 v.2.2.2.1 v.2.2.2.2.1 v.2.2.2.2.2.1 v.2.2.2.2.2.2.1 v.2.2.2.2.2.2.2.1 v.2.2.2.2.2.2.2.2.1 v.2.2.2.2.2.2.2.2.2) ⟨hx, hb, hml, hown, hts⟩ (mt_X4_driftOneLine l G h _ x pw wa w0 w1 rd wr z jj y n mq (en) (em) (by first | assumption | omega) (by first | assumption | omega)) (cwV 0 hts gX4_driftOneVersion_X4_driftOneLine rfl rfl rfl (by decide +kernel) ⟨Nat.le_of_ble_eq_true rfl, Nat.le_of_ble_eq_true rfl⟩) hK hN hP hD hS hA (fun _ => rfl) 0 4 rfl rfl rfl hl.1 rfl (Nat.le_of_ble_eq_true rfl) ⟨Nat.zero_le _, Nat.zero_le _⟩ dX4_driftOneVersion_51 (fun r51 u51 H locs hw51 hP hD hS => ?_)
            obtain ⟨p51, y51, n51, m51, rfl, en51, hn51, em51, hm51, hz51⟩ := hw51
            have hP : PP G (xw G h x p51 wa w0 w1 rd wr z jj y51) H := hP
            have hD : va_D A (xw G h x p51 wa w0 w1 rd wr z jj y51) := hD
            refine lv_istore_n (lv' := [(1, .int r51), (0, .ref (h 0)), (2, .int (nI k))]) hx hb dX4_driftOneVersion_54 rfl hl (by decide) rfl (fun ls hl => ?_)
            refine lv_iinc (v := nI (k + 1)) (lv' := [(2, .int (nI (k + 1))), (1, .int r51), (0, .ref (h 0))]) hx hb dX4_driftOneVersion_55 hl (k := 2) rfl (nI_1 k) (by decide) rfl (fun ls hl => ?_)
            refine lv_goto (tgt := 41) hx hb dX4_driftOneVersion_58 (by decide) ?_
            exact ih41 (k + 1) r51 p51 y51 n51 m51 (by first | assumption | omega) (en51) (by first | assumption | omega) (em51) (by first | assumption | omega) (by first | exact Or.inl rfl | exact Or.inr rfl | assumption) (by omega) _ _ ls hP hD hS (lv_sub hl [2, 1, 0] rfl)
    exact LP41 (3 - 0 + 1) 0 (nI 1) u34 u29 nv nl (by first | assumption | omega) ((hR34.1 0 (by decide)).trans (hnv)) (by first | assumption | omega) ((hR34.1 5 (by decide)).trans (hnl)) (by first | assumption | omega) (by first | exact Or.inl rfl | exact Or.inr rfl | assumption) (Nat.lt_succ_self _) _ _ ls hP hD hS (lv_sub hl [2, 1, 0] rfl)
  · skip
    have n9 : ¬ (nv < 24) := fun q9 => c9 ((nI_ltI (a := nv) (b := 24) (by omega) (by omega)).mpr q9)
    refine lv_iconst (v := nI 0) hx hb dX4_driftOneVersion_12 (by decide) ?_
    exact W.zret (v := nI 0) hx hb hr (by decide) (fun t ht hW => ⟨⟨nI 0, (x, wn, wa, w0, w1, rd, wr, z, jj, lt), rfl, ⟨_, _, nv, nl, rfl, hnv, by omega, hnl, by omega, by first | exact Or.inl rfl | exact Or.inr rfl | assumption⟩, show PP G (xw G h x wn wa w0 w1 rd wr z jj lt) t.heap by rw [ht]; exact hP⟩, hS.F ht⟩) hS.2.2 dX4_driftOneVersion_13
set_option maxHeartbeats 1000000 in
set_option maxRecDepth 100000 in
theorem mt_X4_drift (l : Launch) (G : gG) (h : Nat → Nat) (sz : Nat) (x : oS) (wn : oS) (wa : oS) (w0 : oS) (w1 : oS) (rd : oS) (wr : oS) (z : oS) (jj : Nat → Nat → Int64) (lt : Int64) (nv : Nat) (nl : Nat) (nva : Nat) (nla : Nat) (nv0 : Nat) (nl0 : Nat) (nv1 : Nat) (nl1 : Nat) (len : Nat) (a : Int32) (b : Int32) (hnv : wn.1 0 = nI nv) (hnl : wn.1 5 = nI nl) (hnva : wa.1 0 = nI nva) (hnla : wa.1 5 = nI nla) (hnv0 : w0.1 0 = nI nv0) (hnl0 : w0.1 5 = nI nl0) (hnv1 : w1.1 0 = nI nv1) (hnl1 : w1.1 5 = nI nl1) (hlen : rd.1 1 = nI len) (hnv24 : nv ≤ 24) (hnl120 : nl ≤ 120) (hva24 : nva ≤ 24) (hla120 : nla ≤ 120) (hv024 : nv0 ≤ 24) (hl0120 : nl0 ≤ 120) (hv124 : nv1 ≤ 24) (hl1120 : nl1 ≤ 120) (hl240 : len ≤ 240) (hsz : ∀ j, j < 4 → z.2 1 j = -1 ∨ ∃ q, q ≤ 40 ∧ z.2 1 j = nI q) : Met l yX4_drift wsX4_drift ({ frames := 6, cells := 0, slots := 0, locals := 141 }) (preW G (xw G h x wn wa w0 w1 rd wr z jj lt) sz [.ref (h 0), .int a, .int b]) (va_Qi (fun (r : Int32) (v : oS × oS × oS × oS × oS × oS × oS × oS × (Nat → Nat → Int64) × Int64) => XQ rd z v) (fun v t => PP G (xw G h v.1 v.2.1 v.2.2.1 v.2.2.2.1 v.2.2.2.2.1 v.2.2.2.2.2.1 v.2.2.2.2.2.2.1 v.2.2.2.2.2.2.2.1 v.2.2.2.2.2.2.2.2.1 v.2.2.2.2.2.2.2.2.2) t.heap) (va_A (xw G h x wn wa w0 w1 rd wr z jj lt) sz)) 0 0 (va_A (xw G h x wn wa w0 w1 rd wr z jj lt) sz) := by
  refine Met.ofW (cc := cX4_drift) (maxL := 5) (ret := (some .int)) (by decide) rfl ?_
  intro p e s m args below meth c s₁ B hml hv
  obtain ⟨ha, hsz, hP, hK, hN, hD0⟩ := hv
  subst ha
  have hx := B.exec
  have hb := B.bytes
  have hr := B.returns
  have hts := atoms_spec (ws := wsX4_drift) B.pre
  have hown : s.vm.findClass RX4 = some m.cls := findClass_of_methodNamed B.named
  have hlocks := B.notSynchronized
  subst hsz
  have hD := hD0.self (sz := s.heap.size)
  generalize hAe : va_A (xw G h x wn wa w0 w1 rd wr z jj lt) s.heap.size = A at hD ⊢
  have hA : ∀ q : Nat, s.heap.size ≤ q → A q := fun q h => by rw [← hAe]; exact Or.inr h
  clear hAe hD0
  have hS : va_S A s.heap s.heap [] := va_S.rf
  have hiX4 : ∀ w ∈ wsX40, w ∈ wsX4_drift := by decide +kernel
  have k48 := hts (.fieldLink RX4 48 "WovenHistory" "opened" "Z") (List.mem_of_getElem? (i := 3) rfl)
  have k10 := hts (.fieldLink RX4 10 "WovenHistory" "now" "LWovenHistory$Weave;") (List.mem_of_getElem? (i := 4) rfl)
  have hiX3 : ∀ w ∈ wsX30, w ∈ wsX4_drift := by decide +kernel
  have k82 : (Cond.fieldLinkNest "WovenHistory" 82 "WovenHistory$Weave" "versions" "I" "WovenHistory").before _ s = true := va_Nw.use (A := ([.ref (h 0), .int a, .int b] : List Value).toArray) rfl (hN.1 ("WovenHistory", 82, "WovenHistory$Weave", "versions", "I") (List.mem_of_getElem? (i := 12) rfl))
  have k44 := hts (.fieldLink RX4 44 "WovenHistory" "lots" "LWovenHistory$Lots;") (List.mem_of_getElem? (i := 6) rfl)
  have hl := lv_entry ([.ref (h 0), .int a, .int b]) (n := 5) (Nat.le_of_ble_eq_true rfl)
  rw [lg_entry_eq]
  generalize (lg_sl ([.ref (h 0), .int a, .int b]) ++ List.replicate (5 - (lg_sl ([.ref (h 0), .int a, .int b])).length) Slot.unset).toArray = ls at hl ⊢
  have hl : lv_has ls 5 [(0, .ref (h 0)), (1, .int a), (2, .int b)] := hl
  refine lv_iload_n hx hb dX4_drift_0 rfl (lv_at hl 1 rfl) ?_
  refine lv_iconst (v := nI 1) hx hb dX4_drift_1 (by decide) ?_
  refine lv_icmp_lt (tgt := 22) hx hb dX4_drift_2 (by decide) (fun c2 => ?_) (fun c2 => ?_)
  · skip
    refine lv_ldc (v := (-1000000002 : Int32)) hx hb hown (hts (.constant RX4 56 (-1000000002)) (List.mem_of_getElem? (i := 2) rfl)) dX4_drift_22 ?_
    exact W.iret (v := (-1000000002 : Int32)) hx hb hr (fun t ht hW => ⟨⟨(-1000000002 : Int32), (x, wn, wa, w0, w1, rd, wr, z, jj, lt), rfl, ⟨_, _, _, _, _, _, _, _, _, _, rfl, ⟨nv, nl, hnv, by omega, hnl, by omega⟩, ⟨nva, nla, hnva, by omega, hnla, by omega⟩, ⟨nv0, nl0, hnv0, by omega, hnl0, by omega⟩, ⟨nv1, nl1, hnv1, by omega, hnl1, by omega⟩, rfl, rfl⟩, show PP G (xw G h x wn wa w0 w1 rd wr z jj lt) t.heap by rw [ht]; exact hP⟩, hS.F ht⟩) hS.2.2 dX4_drift_24
  · skip
    refine lv_iload_n hx hb dX4_drift_5 rfl (lv_at hl 1 rfl) ?_
    refine lv_bipush (v := nI 24) hx hb dX4_drift_6 (by decide) ?_
    refine lv_icmp_gt (tgt := 22) hx hb dX4_drift_8 (by decide) (fun c8 => ?_) (fun c8 => ?_)
    · skip
      refine lv_ldc (v := (-1000000002 : Int32)) hx hb hown (hts (.constant RX4 56 (-1000000002)) (List.mem_of_getElem? (i := 2) rfl)) dX4_drift_22 ?_
      exact W.iret (v := (-1000000002 : Int32)) hx hb hr (fun t ht hW => ⟨⟨(-1000000002 : Int32), (x, wn, wa, w0, w1, rd, wr, z, jj, lt), rfl, ⟨_, _, _, _, _, _, _, _, _, _, rfl, ⟨nv, nl, hnv, by omega, hnl, by omega⟩, ⟨nva, nla, hnva, by omega, hnla, by omega⟩, ⟨nv0, nl0, hnv0, by omega, hnl0, by omega⟩, ⟨nv1, nl1, hnv1, by omega, hnl1, by omega⟩, rfl, rfl⟩, show PP G (xw G h x wn wa w0 w1 rd wr z jj lt) t.heap by rw [ht]; exact hP⟩, hS.F ht⟩) hS.2.2 dX4_drift_24
    · skip
      obtain ⟨a1, ha1, rfl⟩ := dr_y c2 c8
      refine lv_iload_n hx hb dX4_drift_11 rfl (lv_at hl 2 rfl) ?_
      refine lv_iconst (v := nI 1) hx hb dX4_drift_12 (by decide) ?_
      refine lv_icmp_lt (tgt := 22) hx hb dX4_drift_13 (by decide) (fun c13 => ?_) (fun c13 => ?_)
      · skip
        refine lv_ldc (v := (-1000000002 : Int32)) hx hb hown (hts (.constant RX4 56 (-1000000002)) (List.mem_of_getElem? (i := 2) rfl)) dX4_drift_22 ?_
        exact W.iret (v := (-1000000002 : Int32)) hx hb hr (fun t ht hW => ⟨⟨(-1000000002 : Int32), (x, wn, wa, w0, w1, rd, wr, z, jj, lt), rfl, ⟨_, _, _, _, _, _, _, _, _, _, rfl, ⟨nv, nl, hnv, by omega, hnl, by omega⟩, ⟨nva, nla, hnva, by omega, hnla, by omega⟩, ⟨nv0, nl0, hnv0, by omega, hnl0, by omega⟩, ⟨nv1, nl1, hnv1, by omega, hnl1, by omega⟩, rfl, rfl⟩, show PP G (xw G h x wn wa w0 w1 rd wr z jj lt) t.heap by rw [ht]; exact hP⟩, hS.F ht⟩) hS.2.2 dX4_drift_24
      · skip
        refine lv_iload_n hx hb dX4_drift_16 rfl (lv_at hl 2 rfl) ?_
        refine lv_ldc (v := (999999 : Int32)) hx hb hown (hts (.constant RX4 186 (999999)) (List.mem_of_getElem? (i := 1) rfl)) dX4_drift_17 ?_
        refine lv_icmp_le (tgt := 25) hx hb dX4_drift_19 (by decide) (fun c19 => ?_) (fun c19 => ?_)
        · skip
          refine lv_aload_n hx hb dX4_drift_25 rfl (lv_at hl 0 rfl) ?_
          refine va_get (D := gD G) (ci := 4) (v := .int (x.1 7)) (C := RX4) (T := TX4) (N := 9) hx hb hts hiX4 hown hK hP 0 rfl rfl 7 (by decide) k48 (fun _ h9 => h9) rfl dX4_drift_26 ?_
          refine lv_if_ne (tgt := 42) hx hb dX4_drift_29 (by decide) (fun c29 => ?_) (fun c29 => ?_)
          · skip
            refine lv_ldc (v := (-1000000003 : Int32)) hx hb hown (hts (.constant RX4 148 (-1000000003)) (List.mem_of_getElem? (i := 5) rfl)) dX4_drift_42 ?_
            exact W.iret (v := (-1000000003 : Int32)) hx hb hr (fun t ht hW => ⟨⟨(-1000000003 : Int32), (x, wn, wa, w0, w1, rd, wr, z, jj, lt), rfl, ⟨_, _, _, _, _, _, _, _, _, _, rfl, ⟨nv, nl, hnv, by omega, hnl, by omega⟩, ⟨nva, nla, hnva, by omega, hnla, by omega⟩, ⟨nv0, nl0, hnv0, by omega, hnl0, by omega⟩, ⟨nv1, nl1, hnv1, by omega, hnl1, by omega⟩, rfl, rfl⟩, show PP G (xw G h x wn wa w0 w1 rd wr z jj lt) t.heap by rw [ht]; exact hP⟩, hS.F ht⟩) hS.2.2 dX4_drift_44
          · skip
            refine lv_aload_n hx hb dX4_drift_32 rfl (lv_at hl 0 rfl) ?_
            refine va_get (D := gD G) (ci := 4) (v := .ref (h 10)) (C := RX4) (T := TX4) (N := 9) hx hb hts hiX4 hown hK hP 0 rfl rfl 0 (by decide) k10 (fun _ h9 => h9) rfl dX4_drift_33 ?_
            refine va_getN (D := gD G) (ci := 3) (v := .int (wn.1 0)) (C := RX3) (T := TX3) (N := 9) hx hb hts hiX3 hown hK hP 3 rfl rfl 0 (by decide) k82 (fun _ h9 => h9) rfl dX4_drift_36 ?_
            refine topE hnv ?_
            refine lv_if_ne (tgt := 45) hx hb dX4_drift_39 (by decide) (fun c39 => ?_) (fun c39 => ?_)
            · skip
              have n39 : ¬ (nv = 0) := fun q9 => c39 ((nI_eq (a := nv) (b := 0) (by omega) (by omega)).mpr q9)
              refine lv_aload_n hx hb dX4_drift_45 rfl (lv_at hl 0 rfl) ?_
              refine va_get (D := gD G) (ci := 4) (v := .ref (h 80)) (C := RX4) (T := TX4) (N := 9) hx hb hts hiX4 hown hK hP 0 rfl rfl 6 (by decide) k44 (fun _ h9 => h9) rfl dX4_drift_46 ?_
              refine lv_iload_n hx hb dX4_drift_49 rfl (lv_at hl 2 rfl) ?_
              refine cWv (As := [.int b]) (rest := []) (S := Int64) (wa := xw G h x wn wa w0 w1 rd wr z jj lt) (wc := tv G (fun k => h (80 + k)) lt) (w1 := fun v => tv G (fun k => h (80 + k)) v) (wa' := fun v => xw G h x wn wa w0 w1 rd wr z jj v) ⟨hx, hb, hml, hown, hts⟩ (mt_X0_start l G (fun k => h (80 + k)) _ lt b) (cwV 1 hts gX4_drift_X0_start rfl rfl rfl (by decide +kernel) ⟨Nat.le_of_ble_eq_true rfl, Nat.le_of_ble_eq_true rfl⟩) hK hN hP hD hS hA [54] rfl (by decide) rfl (fun _ => rfl) (fun _ => rfl) (fun _ => rfl) 0 0 rfl rfl rfl hl.1 rfl (Nat.le_of_ble_eq_true rfl) ⟨Nat.zero_le _, Nat.zero_le _⟩ dX4_drift_50 (fun u50 H locs hw50 hP hD hS => ?_)
              have hP : PP G (xw G h x wn wa w0 w1 rd wr z jj u50) H := hP
              have hD : va_D A (xw G h x wn wa w0 w1 rd wr z jj u50) := hD
              refine lv_iconst (v := nI 1) hx hb dX4_drift_53 (by decide) ?_
              refine lv_istore_n (lv' := [(3, .int (nI 1)), (0, .ref (h 0)), (1, .int (nI a1)), (2, .int b)]) hx hb dX4_drift_54 rfl hl (by decide) rfl (fun ls hl => ?_)
              refine lv_iconst (v := nI 0) hx hb dX4_drift_55 (by decide) ?_
              refine lv_istore (lv' := [(4, .int (nI 0)), (3, .int (nI 1)), (0, .ref (h 0)), (1, .int (nI a1)), (2, .int b)]) hx hb dX4_drift_56 hl (by decide) rfl (fun ls hl => ?_)
              have LP58 : ∀ (n58m : Nat), ∀ (k : Nat) (x1 : Int32) (pw : oS) (y : Int64) (n : Nat) (mq : Nat) (hk : k ≤ a1) (en : pw.1 0 = nI n) (hn : n ≤ 24) (em : pw.1 5 = nI mq) (hm : mq ≤ 120) (hx01 : x1 = 0 ∨ x1 = 1), (a1 - k < n58m) → ∀ (H : Heap) (locs : List Loc) (ls : Array Slot), PP G (xw G h x pw wa w0 w1 rd wr z jj y) H → va_D A (xw G h x pw wa w0 w1 rd wr z jj y) → va_S A s.heap H locs → lv_has ls 5 [(0, .ref (h 0)), (1, .int (nI a1)), (3, .int x1), (4, .int (nI k))] → W p l e (headSpec wsX4_drift ({ frames := 6, cells := 0, slots := 0, locals := 141 })).room s m ([.ref (h 0), .int (nI a1), .int b] : List Value).toArray below meth c H locs 0 0 (MQ below (va_Qi (fun (r : Int32) (v : oS × oS × oS × oS × oS × oS × oS × oS × (Nat → Nat → Int64) × Int64) => XQ rd z v) (fun v t => PP G (xw G h v.1 v.2.1 v.2.2.1 v.2.2.2.1 v.2.2.2.2.1 v.2.2.2.2.2.1 v.2.2.2.2.2.2.1 v.2.2.2.2.2.2.2.1 v.2.2.2.2.2.2.2.2.1 v.2.2.2.2.2.2.2.2.2) t.heap) A) ([.ref (h 0), .int (nI a1), .int b] : List Value).toArray s 0 0 A) (F0 m 58 ls []) := by
                intro n58m
                induction n58m with
                | zero => intro k x1 pw y n mq hk en hn em hm hx01 hmu H locs ls hP hD hS hl; exact absurd hmu (Nat.not_lt_zero _)
                | succ n58m ih58 =>
                  intro k x1 pw y n mq hk en hn em hm hx01 hmu H locs ls hP hD hS hl
                  refine lv_iload hx hb dX4_drift_58 (lv_at hl 3 rfl) ?_
                  refine lv_iload_n hx hb dX4_drift_60 rfl (lv_at hl 1 rfl) ?_
                  refine lv_icmp_ge (tgt := 79) hx hb dX4_drift_61 (by decide) (fun c61 => ?_) (fun c61 => ?_)
                  · skip
                    have n61 : a1 ≤ k := (nI_leI (a := a1) (b := k) (by omega) (by omega)).mp c61
                    refine lv_aload_n hx hb dX4_drift_79 rfl (lv_at hl 0 rfl) ?_
                    refine va_get (D := gD G) (ci := 4) (v := .ref (h 10)) (C := RX4) (T := TX4) (N := 9) hx hb hts hiX4 hown hK hP 0 rfl rfl 0 (by decide) k10 (fun _ h9 => h9) rfl dX4_drift_80 ?_
                    refine va_getN (D := gD G) (ci := 3) (v := .int (pw.1 0)) (C := RX3) (T := TX3) (N := 9) hx hb hts hiX3 hown hK hP 3 rfl rfl 0 (by decide) k82 (fun _ h9 => h9) rfl dX4_drift_83 ?_
                    refine topE en ?_
                    exact W.iret (v := nI n) hx hb hr (fun t ht hW => ⟨⟨nI n, (x, pw, wa, w0, w1, rd, wr, z, jj, y), rfl, ⟨_, _, _, _, _, _, _, _, _, _, rfl, ⟨n, mq, en, by omega, em, by omega⟩, ⟨nva, nla, hnva, by omega, hnla, by omega⟩, ⟨nv0, nl0, hnv0, by omega, hnl0, by omega⟩, ⟨nv1, nl1, hnv1, by omega, hnl1, by omega⟩, rfl, rfl⟩, show PP G (xw G h x pw wa w0 w1 rd wr z jj y) t.heap by rw [ht]; exact hP⟩, hS.F ht⟩) hS.2.2 dX4_drift_86
                  · skip
                    have n61 : ¬ (a1 ≤ k) := fun q9 => c61 ((nI_leI (a := a1) (b := k) (by omega) (by omega)).mpr q9)
                    refine lv_iload_n hx hb dX4_drift_64 rfl (lv_at hl 2 rfl) ?_
                    refine lv_if_eq (tgt := 79) hx hb dX4_drift_65 (by decide) (fun c65 => ?_) (fun c65 => ?_)
                    · skip
                      refine lv_aload_n hx hb dX4_drift_79 rfl (lv_at hl 0 rfl) ?_
                      refine va_get (D := gD G) (ci := 4) (v := .ref (h 10)) (C := RX4) (T := TX4) (N := 9) hx hb hts hiX4 hown hK hP 0 rfl rfl 0 (by decide) k10 (fun _ h9 => h9) rfl dX4_drift_80 ?_
                      refine va_getN (D := gD G) (ci := 3) (v := .int (pw.1 0)) (C := RX3) (T := TX3) (N := 9) hx hb hts hiX3 hown hK hP 3 rfl rfl 0 (by decide) k82 (fun _ h9 => h9) rfl dX4_drift_83 ?_
                      refine topE en ?_
                      exact W.iret (v := nI n) hx hb hr (fun t ht hW => ⟨⟨nI n, (x, pw, wa, w0, w1, rd, wr, z, jj, y), rfl, ⟨_, _, _, _, _, _, _, _, _, _, rfl, ⟨n, mq, en, by omega, em, by omega⟩, ⟨nva, nla, hnva, by omega, hnla, by omega⟩, ⟨nv0, nl0, hnv0, by omega, hnl0, by omega⟩, ⟨nv1, nl1, hnv1, by omega, hnl1, by omega⟩, rfl, rfl⟩, show PP G (xw G h x pw wa w0 w1 rd wr z jj y) t.heap by rw [ht]; exact hP⟩, hS.F ht⟩) hS.2.2 dX4_drift_86
                    · skip
                      refine lv_aload_n hx hb dX4_drift_68 rfl (lv_at hl 0 rfl) ?_
                      refine cXi (As := []) (rest := []) (S := oS × oS × oS × oS × oS × oS × oS × oS × (Nat → Nat → Int64) × Int64) (wa := xw G h x pw wa w0 w1 rd wr z jj y) (w1 := fun v => xw G h v.1 v.2.1 v.2.2.1 v.2.2.2.1 v.2.2.2.2.1 v.2.2.2.2.2.1 v.2.2.2.2.2.2.1 v.2.2.2.2.2.2.2.1 v.2.2.2.2.2.2.2.2.1 v.2.2.2.2.2.2.2.2.2) ⟨hx, hb, hml, hown, hts⟩ (mt_X4_driftOneVersion l G h _ x pw wa w0 w1 rd wr z jj y n mq (en) (em) (by first | assumption | omega) (by first | assumption | omega)) (cwV 0 hts gX4_drift_X4_driftOneVersion rfl rfl rfl (by decide +kernel) ⟨Nat.le_of_ble_eq_true rfl, Nat.le_of_ble_eq_true rfl⟩) hK hN hP hD hS hA (fun _ => rfl) 0 4 rfl rfl rfl hl.1 rfl (Nat.le_of_ble_eq_true rfl) ⟨Nat.zero_le _, Nat.zero_le _⟩ dX4_drift_69 (fun r69 u69 H locs hw69 hP hD hS => ?_)
                      obtain ⟨p69, y69, n69, m69, rfl, en69, hn69, em69, hm69, hz69⟩ := hw69
                      have hP : PP G (xw G h x p69 wa w0 w1 rd wr z jj y69) H := hP
                      have hD : va_D A (xw G h x p69 wa w0 w1 rd wr z jj y69) := hD
                      refine lv_istore_n (lv' := [(3, .int r69), (0, .ref (h 0)), (1, .int (nI a1)), (4, .int (nI k))]) hx hb dX4_drift_72 rfl hl (by decide) rfl (fun ls hl => ?_)
                      refine lv_iinc (v := nI (k + 1)) (lv' := [(4, .int (nI (k + 1))), (3, .int r69), (0, .ref (h 0)), (1, .int (nI a1))]) hx hb dX4_drift_73 hl (k := 3) rfl (nI_1 k) (by decide) rfl (fun ls hl => ?_)
                      refine lv_goto (tgt := 58) hx hb dX4_drift_76 (by decide) ?_
                      exact ih58 (k + 1) r69 p69 y69 n69 m69 (by first | assumption | omega) (en69) (by first | assumption | omega) (em69) (by first | assumption | omega) (by first | exact Or.inl rfl | exact Or.inr rfl | assumption) (by omega) _ _ ls hP hD hS (lv_sub hl [2, 3, 1, 0] rfl)
              exact LP58 (a1 - 0 + 1) 0 (nI 1) wn u50 nv nl (by first | assumption | omega) (hnv) (by first | assumption | omega) (hnl) (by first | assumption | omega) (by first | exact Or.inl rfl | exact Or.inr rfl | assumption) (Nat.lt_succ_self _) _ _ ls hP hD hS (lv_sub hl [2, 3, 1, 0] rfl)
            · skip
              have n39 : nv = 0 := (nI_eq (a := nv) (b := 0) (by omega) (by omega)).mp c39
              refine lv_ldc (v := (-1000000003 : Int32)) hx hb hown (hts (.constant RX4 148 (-1000000003)) (List.mem_of_getElem? (i := 5) rfl)) dX4_drift_42 ?_
              exact W.iret (v := (-1000000003 : Int32)) hx hb hr (fun t ht hW => ⟨⟨(-1000000003 : Int32), (x, wn, wa, w0, w1, rd, wr, z, jj, lt), rfl, ⟨_, _, _, _, _, _, _, _, _, _, rfl, ⟨nv, nl, hnv, by omega, hnl, by omega⟩, ⟨nva, nla, hnva, by omega, hnla, by omega⟩, ⟨nv0, nl0, hnv0, by omega, hnl0, by omega⟩, ⟨nv1, nl1, hnv1, by omega, hnl1, by omega⟩, rfl, rfl⟩, show PP G (xw G h x wn wa w0 w1 rd wr z jj lt) t.heap by rw [ht]; exact hP⟩, hS.F ht⟩) hS.2.2 dX4_drift_44
        · skip
          refine lv_ldc (v := (-1000000002 : Int32)) hx hb hown (hts (.constant RX4 56 (-1000000002)) (List.mem_of_getElem? (i := 2) rfl)) dX4_drift_22 ?_
          exact W.iret (v := (-1000000002 : Int32)) hx hb hr (fun t ht hW => ⟨⟨(-1000000002 : Int32), (x, wn, wa, w0, w1, rd, wr, z, jj, lt), rfl, ⟨_, _, _, _, _, _, _, _, _, _, rfl, ⟨nv, nl, hnv, by omega, hnl, by omega⟩, ⟨nva, nla, hnva, by omega, hnla, by omega⟩, ⟨nv0, nl0, hnv0, by omega, hnl0, by omega⟩, ⟨nv1, nl1, hnv1, by omega, hnl1, by omega⟩, rfl, rfl⟩, show PP G (xw G h x wn wa w0 w1 rd wr z jj lt) t.heap by rw [ht]; exact hP⟩, hS.F ht⟩) hS.2.2 dX4_drift_24
set_option maxHeartbeats 1000000 in
set_option maxRecDepth 100000 in
theorem mt_X4_sheet (l : Launch) (G : gG) (h : Nat → Nat) (sz : Nat) (x : oS) (wn : oS) (wa : oS) (w0 : oS) (w1 : oS) (rd : oS) (wr : oS) (z : oS) (jj : Nat → Nat → Int64) (lt : Int64) (nv : Nat) (nl : Nat) (nva : Nat) (nla : Nat) (nv0 : Nat) (nl0 : Nat) (nv1 : Nat) (nl1 : Nat) (len : Nat) (s1 : Int32) (n1 : Int32) (hnv : wn.1 0 = nI nv) (hnl : wn.1 5 = nI nl) (hnva : wa.1 0 = nI nva) (hnla : wa.1 5 = nI nla) (hnv0 : w0.1 0 = nI nv0) (hnl0 : w0.1 5 = nI nl0) (hnv1 : w1.1 0 = nI nv1) (hnl1 : w1.1 5 = nI nl1) (hlen : rd.1 1 = nI len) (hnv24 : nv ≤ 24) (hnl120 : nl ≤ 120) (hva24 : nva ≤ 24) (hla120 : nla ≤ 120) (hv024 : nv0 ≤ 24) (hl0120 : nl0 ≤ 120) (hv124 : nv1 ≤ 24) (hl1120 : nl1 ≤ 120) (hl240 : len ≤ 240) (hsz : ∀ j, j < 4 → z.2 1 j = -1 ∨ ∃ q, q ≤ 40 ∧ z.2 1 j = nI q) : Met l yX4_sheet wsX4_sheet ({ frames := 1, cells := 0, slots := 0, locals := 23 }) (preW G (xw G h x wn wa w0 w1 rd wr z jj lt) sz [.ref (h 0), .int s1, .int n1]) (va_Qi (fun (r : Int32) (v : oS × oS × oS × oS × oS × oS × oS × oS × (Nat → Nat → Int64) × Int64) => (r = -1000000001 ∧ XQ rd z v ∧ ∀ j, j < 4 → s1 ≠ nI j) ∨ (r = -1000000002 ∧ XQ rd z v ∧ (∃ j, j < 4 ∧ s1 = nI j) ∧ ∀ j, j ≤ 40 → n1 ≠ nI j) ∨ (∃ j q, j < 4 ∧ s1 = nI j ∧ q ≤ 40 ∧ n1 = nI q ∧ r = nI q ∧ XQ rd (oA z 1 (upd (z.2 1) j (nI q))) v)) (fun v t => PP G (xw G h v.1 v.2.1 v.2.2.1 v.2.2.2.1 v.2.2.2.2.1 v.2.2.2.2.2.1 v.2.2.2.2.2.2.1 v.2.2.2.2.2.2.2.1 v.2.2.2.2.2.2.2.2.1 v.2.2.2.2.2.2.2.2.2) t.heap) (va_A (xw G h x wn wa w0 w1 rd wr z jj lt) sz)) 0 0 (va_A (xw G h x wn wa w0 w1 rd wr z jj lt) sz) := by
  refine Met.ofW (cc := cX4_sheet) (maxL := 3) (ret := (some .int)) (by decide) rfl ?_
  intro p e s m args below meth c s₁ B hml hv
  obtain ⟨ha, hsz, hP, hK, hN, hD0⟩ := hv
  subst ha
  have hx := B.exec
  have hb := B.bytes
  have hr := B.returns
  have hts := atoms_spec (ws := wsX4_sheet) B.pre
  have hown : s.vm.findClass RX4 = some m.cls := findClass_of_methodNamed B.named
  have hlocks := B.notSynchronized
  subst hsz
  have hD := hD0.self (sz := s.heap.size)
  generalize hAe : va_A (xw G h x wn wa w0 w1 rd wr z jj lt) s.heap.size = A at hD ⊢
  have hA : ∀ q : Nat, s.heap.size ≤ q → A q := fun q h => by rw [← hAe]; exact Or.inr h
  clear hAe hD0
  have hS : va_S A s.heap s.heap [] := va_S.rf
  have hiX4 : ∀ w ∈ wsX40, w ∈ wsX4_sheet := by decide +kernel
  have k37 := hts (.fieldLink RX4 37 "WovenHistory" "sheets" "LWovenHistory$Sheets;") (List.mem_of_getElem? (i := 1) rfl)
  have hl := lv_entry ([.ref (h 0), .int s1, .int n1]) (n := 3) (Nat.le_of_ble_eq_true rfl)
  rw [lg_entry_eq]
  generalize (lg_sl ([.ref (h 0), .int s1, .int n1]) ++ List.replicate (3 - (lg_sl ([.ref (h 0), .int s1, .int n1])).length) Slot.unset).toArray = ls at hl ⊢
  have hl : lv_has ls 3 [(0, .ref (h 0)), (1, .int s1), (2, .int n1)] := hl
  refine lv_aload_n hx hb dX4_sheet_0 rfl (lv_at hl 0 rfl) ?_
  refine va_get (D := gD G) (ci := 4) (v := .ref (h 70)) (C := RX4) (T := TX4) (N := 9) hx hb hts hiX4 hown hK hP 0 rfl rfl 5 (by decide) k37 (fun _ h9 => h9) rfl dX4_sheet_1 ?_
  refine lv_iload_n hx hb dX4_sheet_4 rfl (lv_at hl 1 rfl) ?_
  refine cRi (w := sv G (fun k => h (70 + k)) z jj) (As := [.int s1]) (rest := []) ⟨hx, hb, hml, hown, hts⟩ (mt_X2_hasNumber l G (fun k => h (70 + k)) z jj s1) (cwV 1 hts gX4_sheet_X2_hasNumber rfl rfl rfl (by decide +kernel) ⟨Nat.le_of_ble_eq_true rfl, Nat.le_of_ble_eq_true rfl⟩) hK hN (hP.sub [47, 48, 49, 50, 51, 52, 53] rfl) 0 2 rfl rfl rfl hl.1 rfl (Nat.le_of_ble_eq_true rfl) ⟨Nat.zero_le _, Nat.zero_le _⟩ dX4_sheet_5 (fun r5 hw5 => ?_)
  rcases hw5 with ⟨rfl, j5, hj5, rfl⟩ | ⟨rfl, hn5⟩
  · skip
    refine lv_if_ne (tgt := 14) hx hb dX4_sheet_8 (by decide) (fun _ => ?_) (fun c9 => absurd c9 (by decide))
    refine lv_iload_n hx hb dX4_sheet_14 rfl (lv_at hl 2 rfl) ?_
    refine lv_if_lt (tgt := 24) hx hb dX4_sheet_15 (by decide) (fun c15 => ?_) (fun c15 => ?_)
    · skip
      refine lv_ldc (v := (-1000000002 : Int32)) hx hb hown (hts (.constant RX4 56 (-1000000002)) (List.mem_of_getElem? (i := 3) rfl)) dX4_sheet_24 ?_
      exact W.iret (v := (-1000000002 : Int32)) hx hb hr (fun t ht hW => ⟨⟨(-1000000002 : Int32), (x, wn, wa, w0, w1, rd, wr, z, jj, lt), rfl, Or.inr (Or.inl ⟨rfl, ⟨_, _, _, _, _, _, _, _, _, _, rfl, ⟨nv, nl, hnv, by omega, hnl, by omega⟩, ⟨nva, nla, hnva, by omega, hnla, by omega⟩, ⟨nv0, nl0, hnv0, by omega, hnl0, by omega⟩, ⟨nv1, nl1, hnv1, by omega, hnl1, by omega⟩, rfl, rfl⟩, ⟨j5, hj5, rfl⟩, by first | exact le_n1 (by omega) (by assumption) | exact le_n2 (by omega) (by assumption)⟩), show PP G (xw G h x wn wa w0 w1 rd wr z jj lt) t.heap by rw [ht]; exact hP⟩, hS.F ht⟩) hS.2.2 dX4_sheet_26
    · skip
      refine lv_iload_n hx hb dX4_sheet_18 rfl (lv_at hl 2 rfl) ?_
      refine lv_bipush (v := nI 40) hx hb dX4_sheet_19 (by decide) ?_
      refine lv_icmp_le (tgt := 27) hx hb dX4_sheet_21 (by decide) (fun c21 => ?_) (fun c21 => ?_)
      · skip
        obtain ⟨q1, hq1, rfl⟩ := le_y (n := 40) (by omega) c15 c21
        refine lv_aload_n hx hb dX4_sheet_27 rfl (lv_at hl 0 rfl) ?_
        refine va_get (D := gD G) (ci := 4) (v := .ref (h 70)) (C := RX4) (T := TX4) (N := 9) hx hb hts hiX4 hown hK hP 0 rfl rfl 5 (by decide) k37 (fun _ h9 => h9) rfl dX4_sheet_28 ?_
        refine lv_iload_n hx hb dX4_sheet_31 rfl (lv_at hl 1 rfl) ?_
        refine lv_iload_n hx hb dX4_sheet_32 rfl (lv_at hl 2 rfl) ?_
        refine cWv (As := [.int (nI j5), .int (nI q1)]) (rest := []) (S := oS × (Nat → Nat → Int64)) (wa := xw G h x wn wa w0 w1 rd wr z jj lt) (wc := sv G (fun k => h (70 + k)) z jj) (w1 := fun v => sv G (fun k => h (70 + k)) v.1 v.2) (wa' := fun v => xw G h x wn wa w0 w1 rd wr v.1 v.2 lt) ⟨hx, hb, hml, hown, hts⟩ (mt_X2_lay l G (fun k => h (70 + k)) _ z jj j5 (nI q1) (by first | assumption | omega)) (cwV 2 hts gX4_sheet_X2_lay rfl rfl rfl (by decide +kernel) ⟨Nat.le_of_ble_eq_true rfl, Nat.le_of_ble_eq_true rfl⟩) hK hN hP hD hS hA [47, 48, 49, 50, 51, 52, 53] rfl (by decide) rfl (fun _ => rfl) (fun _ => rfl) (fun _ => rfl) 0 2 rfl rfl rfl hl.1 rfl (Nat.le_of_ble_eq_true rfl) ⟨Nat.zero_le _, Nat.zero_le _⟩ dX4_sheet_33 (fun u33 H locs hw33 hP hD hS => ?_)
        obtain ⟨jj33, rfl⟩ := hw33
        have hP : PP G (xw G h x wn wa w0 w1 rd wr (oA z 1 (upd (z.2 1) j5 (nI q1))) jj33 lt) H := hP
        have hD : va_D A (xw G h x wn wa w0 w1 rd wr (oA z 1 (upd (z.2 1) j5 (nI q1))) jj33 lt) := hD
        refine lv_iload_n hx hb dX4_sheet_36 rfl (lv_at hl 2 rfl) ?_
        exact W.iret (v := nI q1) hx hb hr (fun t ht hW => ⟨⟨nI q1, (x, wn, wa, w0, w1, rd, wr, oA z 1 (upd (z.2 1) j5 (nI q1)), jj33, lt), rfl, Or.inr (Or.inr ⟨j5, q1, hj5, rfl, hq1, rfl, rfl, ⟨_, _, _, _, _, _, _, _, _, _, rfl, ⟨nv, nl, hnv, by omega, hnl, by omega⟩, ⟨nva, nla, hnva, by omega, hnla, by omega⟩, ⟨nv0, nl0, hnv0, by omega, hnl0, by omega⟩, ⟨nv1, nl1, hnv1, by omega, hnl1, by omega⟩, rfl, rfl⟩⟩), show PP G (xw G h x wn wa w0 w1 rd wr (oA z 1 (upd (z.2 1) j5 (nI q1))) jj33 lt) t.heap by rw [ht]; exact hP⟩, hS.F ht⟩) hS.2.2 dX4_sheet_37
      · skip
        refine lv_ldc (v := (-1000000002 : Int32)) hx hb hown (hts (.constant RX4 56 (-1000000002)) (List.mem_of_getElem? (i := 3) rfl)) dX4_sheet_24 ?_
        exact W.iret (v := (-1000000002 : Int32)) hx hb hr (fun t ht hW => ⟨⟨(-1000000002 : Int32), (x, wn, wa, w0, w1, rd, wr, z, jj, lt), rfl, Or.inr (Or.inl ⟨rfl, ⟨_, _, _, _, _, _, _, _, _, _, rfl, ⟨nv, nl, hnv, by omega, hnl, by omega⟩, ⟨nva, nla, hnva, by omega, hnla, by omega⟩, ⟨nv0, nl0, hnv0, by omega, hnl0, by omega⟩, ⟨nv1, nl1, hnv1, by omega, hnl1, by omega⟩, rfl, rfl⟩, ⟨j5, hj5, rfl⟩, by first | exact le_n1 (by omega) (by assumption) | exact le_n2 (by omega) (by assumption)⟩), show PP G (xw G h x wn wa w0 w1 rd wr z jj lt) t.heap by rw [ht]; exact hP⟩, hS.F ht⟩) hS.2.2 dX4_sheet_26
  · skip
    refine lv_if_ne (tgt := 14) hx hb dX4_sheet_8 (by decide) (fun c9 => absurd (by decide) c9) (fun _ => ?_)
    refine lv_ldc (v := (-1000000001 : Int32)) hx hb hown (hts (.constant RX4 110 (-1000000001)) (List.mem_of_getElem? (i := 2) rfl)) dX4_sheet_11 ?_
    exact W.iret (v := (-1000000001 : Int32)) hx hb hr (fun t ht hW => ⟨⟨(-1000000001 : Int32), (x, wn, wa, w0, w1, rd, wr, z, jj, lt), rfl, Or.inl ⟨rfl, ⟨_, _, _, _, _, _, _, _, _, _, rfl, ⟨nv, nl, hnv, by omega, hnl, by omega⟩, ⟨nva, nla, hnva, by omega, hnla, by omega⟩, ⟨nv0, nl0, hnv0, by omega, hnl0, by omega⟩, ⟨nv1, nl1, hnv1, by omega, hnl1, by omega⟩, rfl, rfl⟩, hn5⟩, show PP G (xw G h x wn wa w0 w1 rd wr z jj lt) t.heap by rw [ht]; exact hP⟩, hS.F ht⟩) hS.2.2 dX4_sheet_13
set_option maxHeartbeats 1000000 in
set_option maxRecDepth 100000 in
theorem mt_X4_set (l : Launch) (G : gG) (h : Nat → Nat) (sz : Nat) (x : oS) (wn : oS) (wa : oS) (w0 : oS) (w1 : oS) (rd : oS) (wr : oS) (z : oS) (jj : Nat → Nat → Int64) (lt : Int64) (nv : Nat) (nl : Nat) (nva : Nat) (nla : Nat) (nv0 : Nat) (nl0 : Nat) (nv1 : Nat) (nl1 : Nat) (len : Nat) (s1 : Int32) (i1 : Int32) (xx : Int64) (hnv : wn.1 0 = nI nv) (hnl : wn.1 5 = nI nl) (hnva : wa.1 0 = nI nva) (hnla : wa.1 5 = nI nla) (hnv0 : w0.1 0 = nI nv0) (hnl0 : w0.1 5 = nI nl0) (hnv1 : w1.1 0 = nI nv1) (hnl1 : w1.1 5 = nI nl1) (hlen : rd.1 1 = nI len) (hnv24 : nv ≤ 24) (hnl120 : nl ≤ 120) (hva24 : nva ≤ 24) (hla120 : nla ≤ 120) (hv024 : nv0 ≤ 24) (hl0120 : nl0 ≤ 120) (hv124 : nv1 ≤ 24) (hl1120 : nl1 ≤ 120) (hl240 : len ≤ 240) (hsz : ∀ j, j < 4 → z.2 1 j = -1 ∨ ∃ q, q ≤ 40 ∧ z.2 1 j = nI q) : Met l yX4_set wsX4_set ({ frames := 2, cells := 0, slots := 0, locals := 44 }) (preW G (xw G h x wn wa w0 w1 rd wr z jj lt) sz [.ref (h 0), .int s1, .int i1, .long xx]) (va_Ql (fun (r : Int64) (v : oS × oS × oS × oS × oS × oS × oS × oS × (Nat → Nat → Int64) × Int64) => XQ rd z v) (fun v t => PP G (xw G h v.1 v.2.1 v.2.2.1 v.2.2.2.1 v.2.2.2.2.1 v.2.2.2.2.2.1 v.2.2.2.2.2.2.1 v.2.2.2.2.2.2.2.1 v.2.2.2.2.2.2.2.2.1 v.2.2.2.2.2.2.2.2.2) t.heap) (va_A (xw G h x wn wa w0 w1 rd wr z jj lt) sz)) 0 0 (va_A (xw G h x wn wa w0 w1 rd wr z jj lt) sz) := by
  refine Met.ofW (cc := cX4_set) (maxL := 8) (ret := (some .long)) (by decide) rfl ?_
  intro p e s m args below meth c s₁ B hml hv
  obtain ⟨ha, hsz, hP, hK, hN, hD0⟩ := hv
  subst ha
  have hx := B.exec
  have hb := B.bytes
  have hr := B.returns
  have hts := atoms_spec (ws := wsX4_set) B.pre
  have hown : s.vm.findClass RX4 = some m.cls := findClass_of_methodNamed B.named
  have hlocks := B.notSynchronized
  subst hsz
  have hD := hD0.self (sz := s.heap.size)
  generalize hAe : va_A (xw G h x wn wa w0 w1 rd wr z jj lt) s.heap.size = A at hD ⊢
  have hA : ∀ q : Nat, s.heap.size ≤ q → A q := fun q h => by rw [← hAe]; exact Or.inr h
  clear hAe hD0
  have hS : va_S A s.heap s.heap [] := va_S.rf
  have hiX4 : ∀ w ∈ wsX40, w ∈ wsX4_set := by decide +kernel
  have k37 := hts (.fieldLink RX4 37 "WovenHistory" "sheets" "LWovenHistory$Sheets;") (List.mem_of_getElem? (i := 1) rfl)
  have hiX2 : ∀ w ∈ wsX20, w ∈ wsX4_set := by decide +kernel
  have k229 : (Cond.fieldLinkNest "WovenHistory" 229 "WovenHistory$Sheets" "numbers" "[[J" "WovenHistory").before _ s = true := va_Nw.use (A := ([.ref (h 0), .int s1, .int i1, .long xx] : List Value).toArray) rfl (hN.1 ("WovenHistory", 229, "WovenHistory$Sheets", "numbers", "[[J") (List.mem_of_getElem? (i := 7) rfl))
  have hl := lv_entry ([.ref (h 0), .int s1, .int i1, .long xx]) (n := 8) (Nat.le_of_ble_eq_true rfl)
  rw [lg_entry_eq]
  generalize (lg_sl ([.ref (h 0), .int s1, .int i1, .long xx]) ++ List.replicate (8 - (lg_sl ([.ref (h 0), .int s1, .int i1, .long xx])).length) Slot.unset).toArray = ls at hl ⊢
  have hl : lv_has ls 8 [(0, .ref (h 0)), (1, .int s1), (2, .int i1), (3, .long xx)] := hl
  refine lv_aload_n hx hb dX4_set_0 rfl (lv_at hl 0 rfl) ?_
  refine va_get (D := gD G) (ci := 4) (v := .ref (h 70)) (C := RX4) (T := TX4) (N := 9) hx hb hts hiX4 hown hK hP 0 rfl rfl 5 (by decide) k37 (fun _ h9 => h9) rfl dX4_set_1 ?_
  refine lv_iload_n hx hb dX4_set_4 rfl (lv_at hl 1 rfl) ?_
  refine lv_iload_n hx hb dX4_set_5 rfl (lv_at hl 2 rfl) ?_
  refine lv_iconst (v := nI 1) hx hb dX4_set_6 (by decide) ?_
  refine cRi (w := sv G (fun k => h (70 + k)) z jj) (As := [.int s1, .int i1, .int (nI 1)]) (rest := []) ⟨hx, hb, hml, hown, hts⟩ (mt_X2_findWrong l G (fun k => h (70 + k)) z jj s1 i1 (nI 1) (by first | assumption | omega)) (cwV 3 hts gX4_set_X2_findWrong rfl rfl rfl (by decide +kernel) ⟨Nat.le_of_ble_eq_true rfl, Nat.le_of_ble_eq_true rfl⟩) hK hN (hP.sub [47, 48, 49, 50, 51, 52, 53] rfl) 0 2 rfl rfl rfl hl.1 rfl (Nat.le_of_ble_eq_true rfl) ⟨Nat.zero_le _, Nat.zero_le _⟩ dX4_set_7 (fun r7 hw7 => ?_)
  rcases hw7 with ⟨rfl, js7, ji7, nn7, q7, hjs7, rfl, hq7, eq7, rfl, enn7, hs7⟩ | ⟨rfl, hnu7⟩ | ⟨rfl, js7, hjs7, ejs7, eq7⟩ | ⟨rfl, js7, q7, hjs7, ejs7, hq7, eq7, hpl7⟩
  · skip
    refine lv_istore (lv' := [(5, .int (0 : Int32)), (0, .ref (h 0)), (1, .int (nI js7)), (2, .int (nI ji7)), (3, .long xx)]) hx hb dX4_set_10 hl (by decide) rfl (fun ls hl => ?_)
    refine lv_iload hx hb dX4_set_12 (lv_at hl 0 rfl) ?_
    refine lv_if_eq (tgt := 21) hx hb dX4_set_14 (by decide) (fun _ => ?_) (fun c9 => absurd (by decide) c9)
    have hnn : 1 = nn7 := (nI_eq (a := 1) (b := nn7) (by omega) (by omega)).mp enn7
    rcases (show js7 = 0 ∨ js7 = 1 ∨ js7 = 2 ∨ js7 = 3 by omega) with rfl | rfl | rfl | rfl
    · skip
      refine lv_aload_n hx hb dX4_set_21 rfl (lv_at hl 1 rfl) ?_
      refine va_get (D := gD G) (ci := 4) (v := .ref (h 70)) (C := RX4) (T := TX4) (N := 9) hx hb hts hiX4 hown hK hP 0 rfl rfl 5 (by decide) k37 (fun _ h9 => h9) rfl dX4_set_22 ?_
      refine va_getN (D := gD G) (ci := 2) (v := .ref (h 71)) (C := RX2) (T := TX2) (N := 2) hx hb hts hiX2 hown hK hP 47 rfl rfl 0 (by decide) k229 (fun _ h9 => h9) rfl dX4_set_25 ?_
      refine lv_iload_n hx hb dX4_set_28 rfl (lv_at hl 2 rfl) ?_
      refine aaldJ (f := fun i => some (h (73 + i))) (n := 4) (k := 0) (b := h 73) hx hb hK hP 48 rfl rfl (by decide) rfl dX4_set_29 ?_
      refine lv_iload_n hx hb dX4_set_30 rfl (lv_at hl 3 rfl) ?_
      refine laldN (f := jj 0) (n := 40) (k := ji7) hx hb hK hP 50 rfl rfl (by omega) dX4_set_31 ?_
      refine lv_lstore (lv' := [(6, .long ((jj 0) ji7)), (5, .int (0 : Int32)), (0, .ref (h 0)), (1, .int (nI 0)), (2, .int (nI ji7)), (3, .long xx)]) hx hb dX4_set_32 hl (by decide) rfl (fun ls hl => ?_)
      refine lv_aload_n hx hb dX4_set_34 rfl (lv_at hl 2 rfl) ?_
      refine va_get (D := gD G) (ci := 4) (v := .ref (h 70)) (C := RX4) (T := TX4) (N := 9) hx hb hts hiX4 hown hK hP 0 rfl rfl 5 (by decide) k37 (fun _ h9 => h9) rfl dX4_set_35 ?_
      refine va_getN (D := gD G) (ci := 2) (v := .ref (h 71)) (C := RX2) (T := TX2) (N := 2) hx hb hts hiX2 hown hK hP 47 rfl rfl 0 (by decide) k229 (fun _ h9 => h9) rfl dX4_set_38 ?_
      refine lv_iload_n hx hb dX4_set_41 rfl (lv_at hl 3 rfl) ?_
      refine aaldJ (f := fun i => some (h (73 + i))) (n := 4) (k := 0) (b := h 73) hx hb hK hP 48 rfl rfl (by decide) rfl dX4_set_42 ?_
      refine lv_iload_n hx hb dX4_set_43 rfl (lv_at hl 4 rfl) ?_
      refine lv_lload_n hx hb dX4_set_44 rfl (lv_at hl 5 rfl) ?_
      refine lastN (f := jj 0) (n := 40) (k := ji7) hx hb hK hP hD hS 50 rfl rfl (by omega) dX4_set_45 (fun H locs hP hD hS => ?_)
      have hP : PP G (xw G h x wn wa w0 w1 rd wr z (va_up jj 0 (vp_updL (jj 0) ji7 xx)) lt) H := hP
      have hD : va_D A (xw G h x wn wa w0 w1 rd wr z (va_up jj 0 (vp_updL (jj 0) ji7 xx)) lt) := hD
      refine lv_lload hx hb dX4_set_46 (lv_at hl 0 rfl) ?_
      exact W.lret (v := (jj 0) ji7) hx hb hr (fun t ht hW => ⟨⟨(jj 0) ji7, (x, wn, wa, w0, w1, rd, wr, z, va_up jj 0 (vp_updL (jj 0) ji7 xx), lt), rfl, ⟨_, _, _, _, _, _, _, _, _, _, rfl, ⟨nv, nl, hnv, by omega, hnl, by omega⟩, ⟨nva, nla, hnva, by omega, hnla, by omega⟩, ⟨nv0, nl0, hnv0, by omega, hnl0, by omega⟩, ⟨nv1, nl1, hnv1, by omega, hnl1, by omega⟩, rfl, rfl⟩, show PP G (xw G h x wn wa w0 w1 rd wr z (va_up jj 0 (vp_updL (jj 0) ji7 xx)) lt) t.heap by rw [ht]; exact hP⟩, hS.F ht⟩) hS.2.2 dX4_set_48
    · skip
      refine lv_aload_n hx hb dX4_set_21 rfl (lv_at hl 1 rfl) ?_
      refine va_get (D := gD G) (ci := 4) (v := .ref (h 70)) (C := RX4) (T := TX4) (N := 9) hx hb hts hiX4 hown hK hP 0 rfl rfl 5 (by decide) k37 (fun _ h9 => h9) rfl dX4_set_22 ?_
      refine va_getN (D := gD G) (ci := 2) (v := .ref (h 71)) (C := RX2) (T := TX2) (N := 2) hx hb hts hiX2 hown hK hP 47 rfl rfl 0 (by decide) k229 (fun _ h9 => h9) rfl dX4_set_25 ?_
      refine lv_iload_n hx hb dX4_set_28 rfl (lv_at hl 2 rfl) ?_
      refine aaldJ (f := fun i => some (h (73 + i))) (n := 4) (k := 1) (b := h 74) hx hb hK hP 48 rfl rfl (by decide) rfl dX4_set_29 ?_
      refine lv_iload_n hx hb dX4_set_30 rfl (lv_at hl 3 rfl) ?_
      refine laldN (f := jj 1) (n := 40) (k := ji7) hx hb hK hP 51 rfl rfl (by omega) dX4_set_31 ?_
      refine lv_lstore (lv' := [(6, .long ((jj 1) ji7)), (5, .int (0 : Int32)), (0, .ref (h 0)), (1, .int (nI 1)), (2, .int (nI ji7)), (3, .long xx)]) hx hb dX4_set_32 hl (by decide) rfl (fun ls hl => ?_)
      refine lv_aload_n hx hb dX4_set_34 rfl (lv_at hl 2 rfl) ?_
      refine va_get (D := gD G) (ci := 4) (v := .ref (h 70)) (C := RX4) (T := TX4) (N := 9) hx hb hts hiX4 hown hK hP 0 rfl rfl 5 (by decide) k37 (fun _ h9 => h9) rfl dX4_set_35 ?_
      refine va_getN (D := gD G) (ci := 2) (v := .ref (h 71)) (C := RX2) (T := TX2) (N := 2) hx hb hts hiX2 hown hK hP 47 rfl rfl 0 (by decide) k229 (fun _ h9 => h9) rfl dX4_set_38 ?_
      refine lv_iload_n hx hb dX4_set_41 rfl (lv_at hl 3 rfl) ?_
      refine aaldJ (f := fun i => some (h (73 + i))) (n := 4) (k := 1) (b := h 74) hx hb hK hP 48 rfl rfl (by decide) rfl dX4_set_42 ?_
      refine lv_iload_n hx hb dX4_set_43 rfl (lv_at hl 4 rfl) ?_
      refine lv_lload_n hx hb dX4_set_44 rfl (lv_at hl 5 rfl) ?_
      refine lastN (f := jj 1) (n := 40) (k := ji7) hx hb hK hP hD hS 51 rfl rfl (by omega) dX4_set_45 (fun H locs hP hD hS => ?_)
      have hP : PP G (xw G h x wn wa w0 w1 rd wr z (va_up jj 1 (vp_updL (jj 1) ji7 xx)) lt) H := hP
      have hD : va_D A (xw G h x wn wa w0 w1 rd wr z (va_up jj 1 (vp_updL (jj 1) ji7 xx)) lt) := hD
      refine lv_lload hx hb dX4_set_46 (lv_at hl 0 rfl) ?_
      exact W.lret (v := (jj 1) ji7) hx hb hr (fun t ht hW => ⟨⟨(jj 1) ji7, (x, wn, wa, w0, w1, rd, wr, z, va_up jj 1 (vp_updL (jj 1) ji7 xx), lt), rfl, ⟨_, _, _, _, _, _, _, _, _, _, rfl, ⟨nv, nl, hnv, by omega, hnl, by omega⟩, ⟨nva, nla, hnva, by omega, hnla, by omega⟩, ⟨nv0, nl0, hnv0, by omega, hnl0, by omega⟩, ⟨nv1, nl1, hnv1, by omega, hnl1, by omega⟩, rfl, rfl⟩, show PP G (xw G h x wn wa w0 w1 rd wr z (va_up jj 1 (vp_updL (jj 1) ji7 xx)) lt) t.heap by rw [ht]; exact hP⟩, hS.F ht⟩) hS.2.2 dX4_set_48
    · skip
      refine lv_aload_n hx hb dX4_set_21 rfl (lv_at hl 1 rfl) ?_
      refine va_get (D := gD G) (ci := 4) (v := .ref (h 70)) (C := RX4) (T := TX4) (N := 9) hx hb hts hiX4 hown hK hP 0 rfl rfl 5 (by decide) k37 (fun _ h9 => h9) rfl dX4_set_22 ?_
      refine va_getN (D := gD G) (ci := 2) (v := .ref (h 71)) (C := RX2) (T := TX2) (N := 2) hx hb hts hiX2 hown hK hP 47 rfl rfl 0 (by decide) k229 (fun _ h9 => h9) rfl dX4_set_25 ?_
      refine lv_iload_n hx hb dX4_set_28 rfl (lv_at hl 2 rfl) ?_
      refine aaldJ (f := fun i => some (h (73 + i))) (n := 4) (k := 2) (b := h 75) hx hb hK hP 48 rfl rfl (by decide) rfl dX4_set_29 ?_
      refine lv_iload_n hx hb dX4_set_30 rfl (lv_at hl 3 rfl) ?_
      refine laldN (f := jj 2) (n := 40) (k := ji7) hx hb hK hP 52 rfl rfl (by omega) dX4_set_31 ?_
      refine lv_lstore (lv' := [(6, .long ((jj 2) ji7)), (5, .int (0 : Int32)), (0, .ref (h 0)), (1, .int (nI 2)), (2, .int (nI ji7)), (3, .long xx)]) hx hb dX4_set_32 hl (by decide) rfl (fun ls hl => ?_)
      refine lv_aload_n hx hb dX4_set_34 rfl (lv_at hl 2 rfl) ?_
      refine va_get (D := gD G) (ci := 4) (v := .ref (h 70)) (C := RX4) (T := TX4) (N := 9) hx hb hts hiX4 hown hK hP 0 rfl rfl 5 (by decide) k37 (fun _ h9 => h9) rfl dX4_set_35 ?_
      refine va_getN (D := gD G) (ci := 2) (v := .ref (h 71)) (C := RX2) (T := TX2) (N := 2) hx hb hts hiX2 hown hK hP 47 rfl rfl 0 (by decide) k229 (fun _ h9 => h9) rfl dX4_set_38 ?_
      refine lv_iload_n hx hb dX4_set_41 rfl (lv_at hl 3 rfl) ?_
      refine aaldJ (f := fun i => some (h (73 + i))) (n := 4) (k := 2) (b := h 75) hx hb hK hP 48 rfl rfl (by decide) rfl dX4_set_42 ?_
      refine lv_iload_n hx hb dX4_set_43 rfl (lv_at hl 4 rfl) ?_
      refine lv_lload_n hx hb dX4_set_44 rfl (lv_at hl 5 rfl) ?_
      refine lastN (f := jj 2) (n := 40) (k := ji7) hx hb hK hP hD hS 52 rfl rfl (by omega) dX4_set_45 (fun H locs hP hD hS => ?_)
      have hP : PP G (xw G h x wn wa w0 w1 rd wr z (va_up jj 2 (vp_updL (jj 2) ji7 xx)) lt) H := hP
      have hD : va_D A (xw G h x wn wa w0 w1 rd wr z (va_up jj 2 (vp_updL (jj 2) ji7 xx)) lt) := hD
      refine lv_lload hx hb dX4_set_46 (lv_at hl 0 rfl) ?_
      exact W.lret (v := (jj 2) ji7) hx hb hr (fun t ht hW => ⟨⟨(jj 2) ji7, (x, wn, wa, w0, w1, rd, wr, z, va_up jj 2 (vp_updL (jj 2) ji7 xx), lt), rfl, ⟨_, _, _, _, _, _, _, _, _, _, rfl, ⟨nv, nl, hnv, by omega, hnl, by omega⟩, ⟨nva, nla, hnva, by omega, hnla, by omega⟩, ⟨nv0, nl0, hnv0, by omega, hnl0, by omega⟩, ⟨nv1, nl1, hnv1, by omega, hnl1, by omega⟩, rfl, rfl⟩, show PP G (xw G h x wn wa w0 w1 rd wr z (va_up jj 2 (vp_updL (jj 2) ji7 xx)) lt) t.heap by rw [ht]; exact hP⟩, hS.F ht⟩) hS.2.2 dX4_set_48
    · skip
      refine lv_aload_n hx hb dX4_set_21 rfl (lv_at hl 1 rfl) ?_
      refine va_get (D := gD G) (ci := 4) (v := .ref (h 70)) (C := RX4) (T := TX4) (N := 9) hx hb hts hiX4 hown hK hP 0 rfl rfl 5 (by decide) k37 (fun _ h9 => h9) rfl dX4_set_22 ?_
      refine va_getN (D := gD G) (ci := 2) (v := .ref (h 71)) (C := RX2) (T := TX2) (N := 2) hx hb hts hiX2 hown hK hP 47 rfl rfl 0 (by decide) k229 (fun _ h9 => h9) rfl dX4_set_25 ?_
      refine lv_iload_n hx hb dX4_set_28 rfl (lv_at hl 2 rfl) ?_
      refine aaldJ (f := fun i => some (h (73 + i))) (n := 4) (k := 3) (b := h 76) hx hb hK hP 48 rfl rfl (by decide) rfl dX4_set_29 ?_
      refine lv_iload_n hx hb dX4_set_30 rfl (lv_at hl 3 rfl) ?_
      refine laldN (f := jj 3) (n := 40) (k := ji7) hx hb hK hP 53 rfl rfl (by omega) dX4_set_31 ?_
      refine lv_lstore (lv' := [(6, .long ((jj 3) ji7)), (5, .int (0 : Int32)), (0, .ref (h 0)), (1, .int (nI 3)), (2, .int (nI ji7)), (3, .long xx)]) hx hb dX4_set_32 hl (by decide) rfl (fun ls hl => ?_)
      refine lv_aload_n hx hb dX4_set_34 rfl (lv_at hl 2 rfl) ?_
      refine va_get (D := gD G) (ci := 4) (v := .ref (h 70)) (C := RX4) (T := TX4) (N := 9) hx hb hts hiX4 hown hK hP 0 rfl rfl 5 (by decide) k37 (fun _ h9 => h9) rfl dX4_set_35 ?_
      refine va_getN (D := gD G) (ci := 2) (v := .ref (h 71)) (C := RX2) (T := TX2) (N := 2) hx hb hts hiX2 hown hK hP 47 rfl rfl 0 (by decide) k229 (fun _ h9 => h9) rfl dX4_set_38 ?_
      refine lv_iload_n hx hb dX4_set_41 rfl (lv_at hl 3 rfl) ?_
      refine aaldJ (f := fun i => some (h (73 + i))) (n := 4) (k := 3) (b := h 76) hx hb hK hP 48 rfl rfl (by decide) rfl dX4_set_42 ?_
      refine lv_iload_n hx hb dX4_set_43 rfl (lv_at hl 4 rfl) ?_
      refine lv_lload_n hx hb dX4_set_44 rfl (lv_at hl 5 rfl) ?_
      refine lastN (f := jj 3) (n := 40) (k := ji7) hx hb hK hP hD hS 53 rfl rfl (by omega) dX4_set_45 (fun H locs hP hD hS => ?_)
      have hP : PP G (xw G h x wn wa w0 w1 rd wr z (va_up jj 3 (vp_updL (jj 3) ji7 xx)) lt) H := hP
      have hD : va_D A (xw G h x wn wa w0 w1 rd wr z (va_up jj 3 (vp_updL (jj 3) ji7 xx)) lt) := hD
      refine lv_lload hx hb dX4_set_46 (lv_at hl 0 rfl) ?_
      exact W.lret (v := (jj 3) ji7) hx hb hr (fun t ht hW => ⟨⟨(jj 3) ji7, (x, wn, wa, w0, w1, rd, wr, z, va_up jj 3 (vp_updL (jj 3) ji7 xx), lt), rfl, ⟨_, _, _, _, _, _, _, _, _, _, rfl, ⟨nv, nl, hnv, by omega, hnl, by omega⟩, ⟨nva, nla, hnva, by omega, hnla, by omega⟩, ⟨nv0, nl0, hnv0, by omega, hnl0, by omega⟩, ⟨nv1, nl1, hnv1, by omega, hnl1, by omega⟩, rfl, rfl⟩, show PP G (xw G h x wn wa w0 w1 rd wr z (va_up jj 3 (vp_updL (jj 3) ji7 xx)) lt) t.heap by rw [ht]; exact hP⟩, hS.F ht⟩) hS.2.2 dX4_set_48
  · skip
    refine lv_istore (lv' := [(5, .int (-1000000001 : Int32)), (0, .ref (h 0)), (1, .int s1), (2, .int i1), (3, .long xx)]) hx hb dX4_set_10 hl (by decide) rfl (fun ls hl => ?_)
    refine lv_iload hx hb dX4_set_12 (lv_at hl 0 rfl) ?_
    refine lv_if_eq (tgt := 21) hx hb dX4_set_14 (by decide) (fun c9 => absurd c9 (by decide)) (fun _ => ?_)
    refine lv_iload hx hb dX4_set_17 (lv_at hl 0 rfl) ?_
    refine lv_i2l (v := (-1000000001 : Int32).toInt64) hx hb dX4_set_19 rfl ?_
    exact W.lret (v := (-1000000001 : Int32).toInt64) hx hb hr (fun t ht hW => ⟨⟨(-1000000001 : Int32).toInt64, (x, wn, wa, w0, w1, rd, wr, z, jj, lt), rfl, ⟨_, _, _, _, _, _, _, _, _, _, rfl, ⟨nv, nl, hnv, by omega, hnl, by omega⟩, ⟨nva, nla, hnva, by omega, hnla, by omega⟩, ⟨nv0, nl0, hnv0, by omega, hnl0, by omega⟩, ⟨nv1, nl1, hnv1, by omega, hnl1, by omega⟩, rfl, rfl⟩, show PP G (xw G h x wn wa w0 w1 rd wr z jj lt) t.heap by rw [ht]; exact hP⟩, hS.F ht⟩) hS.2.2 dX4_set_20
  · skip
    refine lv_istore (lv' := [(5, .int (-1000000011 : Int32)), (0, .ref (h 0)), (1, .int s1), (2, .int i1), (3, .long xx)]) hx hb dX4_set_10 hl (by decide) rfl (fun ls hl => ?_)
    refine lv_iload hx hb dX4_set_12 (lv_at hl 0 rfl) ?_
    refine lv_if_eq (tgt := 21) hx hb dX4_set_14 (by decide) (fun c9 => absurd c9 (by decide)) (fun _ => ?_)
    refine lv_iload hx hb dX4_set_17 (lv_at hl 0 rfl) ?_
    refine lv_i2l (v := (-1000000011 : Int32).toInt64) hx hb dX4_set_19 rfl ?_
    exact W.lret (v := (-1000000011 : Int32).toInt64) hx hb hr (fun t ht hW => ⟨⟨(-1000000011 : Int32).toInt64, (x, wn, wa, w0, w1, rd, wr, z, jj, lt), rfl, ⟨_, _, _, _, _, _, _, _, _, _, rfl, ⟨nv, nl, hnv, by omega, hnl, by omega⟩, ⟨nva, nla, hnva, by omega, hnla, by omega⟩, ⟨nv0, nl0, hnv0, by omega, hnl0, by omega⟩, ⟨nv1, nl1, hnv1, by omega, hnl1, by omega⟩, rfl, rfl⟩, show PP G (xw G h x wn wa w0 w1 rd wr z jj lt) t.heap by rw [ht]; exact hP⟩, hS.F ht⟩) hS.2.2 dX4_set_20
  · skip
    refine lv_istore (lv' := [(5, .int (-1000000012 : Int32)), (0, .ref (h 0)), (1, .int s1), (2, .int i1), (3, .long xx)]) hx hb dX4_set_10 hl (by decide) rfl (fun ls hl => ?_)
    refine lv_iload hx hb dX4_set_12 (lv_at hl 0 rfl) ?_
    refine lv_if_eq (tgt := 21) hx hb dX4_set_14 (by decide) (fun c9 => absurd c9 (by decide)) (fun _ => ?_)
    refine lv_iload hx hb dX4_set_17 (lv_at hl 0 rfl) ?_
    refine lv_i2l (v := (-1000000012 : Int32).toInt64) hx hb dX4_set_19 rfl ?_
    exact W.lret (v := (-1000000012 : Int32).toInt64) hx hb hr (fun t ht hW => ⟨⟨(-1000000012 : Int32).toInt64, (x, wn, wa, w0, w1, rd, wr, z, jj, lt), rfl, ⟨_, _, _, _, _, _, _, _, _, _, rfl, ⟨nv, nl, hnv, by omega, hnl, by omega⟩, ⟨nva, nla, hnva, by omega, hnla, by omega⟩, ⟨nv0, nl0, hnv0, by omega, hnl0, by omega⟩, ⟨nv1, nl1, hnv1, by omega, hnl1, by omega⟩, rfl, rfl⟩, show PP G (xw G h x wn wa w0 w1 rd wr z jj lt) t.heap by rw [ht]; exact hP⟩, hS.F ht⟩) hS.2.2 dX4_set_20
set_option maxHeartbeats 1000000 in
set_option maxRecDepth 100000 in
theorem mt_X4_drop (l : Launch) (G : gG) (h : Nat → Nat) (sz : Nat) (x : oS) (wn : oS) (wa : oS) (w0 : oS) (w1 : oS) (rd : oS) (wr : oS) (z : oS) (jj : Nat → Nat → Int64) (lt : Int64) (nv : Nat) (nl : Nat) (nva : Nat) (nla : Nat) (nv0 : Nat) (nl0 : Nat) (nv1 : Nat) (nl1 : Nat) (len : Nat) (s1 : Int32) (hnv : wn.1 0 = nI nv) (hnl : wn.1 5 = nI nl) (hnva : wa.1 0 = nI nva) (hnla : wa.1 5 = nI nla) (hnv0 : w0.1 0 = nI nv0) (hnl0 : w0.1 5 = nI nl0) (hnv1 : w1.1 0 = nI nv1) (hnl1 : w1.1 5 = nI nl1) (hlen : rd.1 1 = nI len) (hnv24 : nv ≤ 24) (hnl120 : nl ≤ 120) (hva24 : nva ≤ 24) (hla120 : nla ≤ 120) (hv024 : nv0 ≤ 24) (hl0120 : nl0 ≤ 120) (hv124 : nv1 ≤ 24) (hl1120 : nl1 ≤ 120) (hl240 : len ≤ 240) (hsz : ∀ j, j < 4 → z.2 1 j = -1 ∨ ∃ q, q ≤ 40 ∧ z.2 1 j = nI q) : Met l yX4_drop wsX4_drop ({ frames := 2, cells := 0, slots := 0, locals := 44 }) (preW G (xw G h x wn wa w0 w1 rd wr z jj lt) sz [.ref (h 0), .int s1]) (va_Qi (fun (r : Int32) (v : oS × oS × oS × oS × oS × oS × oS × oS × (Nat → Nat → Int64) × Int64) => (r = -1000000001 ∧ XQ rd z v ∧ ∀ j, j < 4 → s1 ≠ nI j) ∨ (∃ j, j < 4 ∧ s1 = nI j ∧ z.2 1 j = -1 ∧ r = -1000000011 ∧ XQ rd z v) ∨ (∃ j q, j < 4 ∧ s1 = nI j ∧ q ≤ 40 ∧ z.2 1 j = nI q ∧ r = nI q ∧ XQ rd (oA z 1 (upd (z.2 1) j (-1))) v)) (fun v t => PP G (xw G h v.1 v.2.1 v.2.2.1 v.2.2.2.1 v.2.2.2.2.1 v.2.2.2.2.2.1 v.2.2.2.2.2.2.1 v.2.2.2.2.2.2.2.1 v.2.2.2.2.2.2.2.2.1 v.2.2.2.2.2.2.2.2.2) t.heap) (va_A (xw G h x wn wa w0 w1 rd wr z jj lt) sz)) 0 0 (va_A (xw G h x wn wa w0 w1 rd wr z jj lt) sz) := by
  refine Met.ofW (cc := cX4_drop) (maxL := 4) (ret := (some .int)) (by decide) rfl ?_
  intro p e s m args below meth c s₁ B hml hv
  obtain ⟨ha, hsz, hP, hK, hN, hD0⟩ := hv
  subst ha
  have hx := B.exec
  have hb := B.bytes
  have hr := B.returns
  have hts := atoms_spec (ws := wsX4_drop) B.pre
  have hown : s.vm.findClass RX4 = some m.cls := findClass_of_methodNamed B.named
  have hlocks := B.notSynchronized
  subst hsz
  have hD := hD0.self (sz := s.heap.size)
  generalize hAe : va_A (xw G h x wn wa w0 w1 rd wr z jj lt) s.heap.size = A at hD ⊢
  have hA : ∀ q : Nat, s.heap.size ≤ q → A q := fun q h => by rw [← hAe]; exact Or.inr h
  clear hAe hD0
  have hS : va_S A s.heap s.heap [] := va_S.rf
  have hiX4 : ∀ w ∈ wsX40, w ∈ wsX4_drop := by decide +kernel
  have k37 := hts (.fieldLink RX4 37 "WovenHistory" "sheets" "LWovenHistory$Sheets;") (List.mem_of_getElem? (i := 1) rfl)
  have hiX2 : ∀ w ∈ wsX20, w ∈ wsX4_drop := by decide +kernel
  have k233 : (Cond.fieldLinkNest "WovenHistory" 233 "WovenHistory$Sheets" "sizes" "[I" "WovenHistory").before _ s = true := va_Nw.use (A := ([.ref (h 0), .int s1] : List Value).toArray) rfl (hN.1 ("WovenHistory", 233, "WovenHistory$Sheets", "sizes", "[I") (List.mem_of_getElem? (i := 8) rfl))
  have hl := lv_entry ([.ref (h 0), .int s1]) (n := 4) (Nat.le_of_ble_eq_true rfl)
  rw [lg_entry_eq]
  generalize (lg_sl ([.ref (h 0), .int s1]) ++ List.replicate (4 - (lg_sl ([.ref (h 0), .int s1])).length) Slot.unset).toArray = ls at hl ⊢
  have hl : lv_has ls 4 [(0, .ref (h 0)), (1, .int s1)] := hl
  refine lv_aload_n hx hb dX4_drop_0 rfl (lv_at hl 0 rfl) ?_
  refine va_get (D := gD G) (ci := 4) (v := .ref (h 70)) (C := RX4) (T := TX4) (N := 9) hx hb hts hiX4 hown hK hP 0 rfl rfl 5 (by decide) k37 (fun _ h9 => h9) rfl dX4_drop_1 ?_
  refine lv_iload_n hx hb dX4_drop_4 rfl (lv_at hl 1 rfl) ?_
  refine lv_iconst (v := nI 0) hx hb dX4_drop_5 (by decide) ?_
  refine lv_iconst (v := nI 0) hx hb dX4_drop_6 (by decide) ?_
  refine cRi (w := sv G (fun k => h (70 + k)) z jj) (As := [.int s1, .int (nI 0), .int (nI 0)]) (rest := []) ⟨hx, hb, hml, hown, hts⟩ (mt_X2_findWrong l G (fun k => h (70 + k)) z jj s1 (nI 0) (nI 0) (by first | assumption | omega)) (cwV 3 hts gX4_drop_X2_findWrong rfl rfl rfl (by decide +kernel) ⟨Nat.le_of_ble_eq_true rfl, Nat.le_of_ble_eq_true rfl⟩) hK hN (hP.sub [47, 48, 49, 50, 51, 52, 53] rfl) 0 2 rfl rfl rfl hl.1 rfl (Nat.le_of_ble_eq_true rfl) ⟨Nat.zero_le _, Nat.zero_le _⟩ dX4_drop_7 (fun r7 hw7 => ?_)
  rcases hw7 with ⟨rfl, js7, ji7, nn7, q7, hjs7, rfl, hq7, eq7, eji7, enn7, hs7⟩ | ⟨rfl, hnu7⟩ | ⟨rfl, js7, hjs7, rfl, eq7⟩ | ⟨rfl, js7, q7, hjs7, ejs7, hq7, eq7, hpl7⟩
  · skip
    refine lv_istore_n (lv' := [(2, .int (0 : Int32)), (0, .ref (h 0)), (1, .int (nI js7))]) hx hb dX4_drop_10 rfl hl (by decide) rfl (fun ls hl => ?_)
    refine lv_iload_n hx hb dX4_drop_11 rfl (lv_at hl 0 rfl) ?_
    refine lv_if_eq (tgt := 17) hx hb dX4_drop_12 (by decide) (fun _ => ?_) (fun c9 => absurd (by decide) c9)
    refine lv_aload_n hx hb dX4_drop_17 rfl (lv_at hl 1 rfl) ?_
    refine va_get (D := gD G) (ci := 4) (v := .ref (h 70)) (C := RX4) (T := TX4) (N := 9) hx hb hts hiX4 hown hK hP 0 rfl rfl 5 (by decide) k37 (fun _ h9 => h9) rfl dX4_drop_18 ?_
    refine va_getN (D := gD G) (ci := 2) (v := .ref (h 72)) (C := RX2) (T := TX2) (N := 2) hx hb hts hiX2 hown hK hP 47 rfl rfl 1 (by decide) k233 (fun _ h9 => h9) rfl dX4_drop_21 ?_
    refine lv_iload_n hx hb dX4_drop_24 rfl (lv_at hl 2 rfl) ?_
    refine ialdN (f := z.2 1) (n := 4) (k := js7) hx hb hK hP 49 rfl rfl (by omega) dX4_drop_25 ?_
    refine lv_istore_n (lv' := [(3, .int ((z.2 1) js7)), (2, .int (0 : Int32)), (0, .ref (h 0)), (1, .int (nI js7))]) hx hb dX4_drop_26 rfl hl (by decide) rfl (fun ls hl => ?_)
    refine lv_aload_n hx hb dX4_drop_27 rfl (lv_at hl 2 rfl) ?_
    refine va_get (D := gD G) (ci := 4) (v := .ref (h 70)) (C := RX4) (T := TX4) (N := 9) hx hb hts hiX4 hown hK hP 0 rfl rfl 5 (by decide) k37 (fun _ h9 => h9) rfl dX4_drop_28 ?_
    refine va_getN (D := gD G) (ci := 2) (v := .ref (h 72)) (C := RX2) (T := TX2) (N := 2) hx hb hts hiX2 hown hK hP 47 rfl rfl 1 (by decide) k233 (fun _ h9 => h9) rfl dX4_drop_31 ?_
    refine lv_iload_n hx hb dX4_drop_34 rfl (lv_at hl 3 rfl) ?_
    refine lv_iconst (v := (-1 : Int32)) hx hb dX4_drop_35 (by decide) ?_
    refine iastN (f := z.2 1) (n := 4) (k := js7) hx hb hK hP hD hS 49 rfl rfl (by omega) dX4_drop_36 (fun H locs hP hD hS => ?_)
    have hP : PP G (xw G h x wn wa w0 w1 rd wr (oA z 1 (upd (z.2 1) js7 (-1 : Int32))) jj lt) H := hP
    have hD : va_D A (xw G h x wn wa w0 w1 rd wr (oA z 1 (upd (z.2 1) js7 (-1 : Int32))) jj lt) := hD
    refine lv_iload_n hx hb dX4_drop_37 rfl (lv_at hl 0 rfl) ?_
    exact W.iret (v := (z.2 1) js7) hx hb hr (fun t ht hW => ⟨⟨(z.2 1) js7, (x, wn, wa, w0, w1, rd, wr, oA z 1 (upd (z.2 1) js7 (-1 : Int32)), jj, lt), rfl, Or.inr (Or.inr ⟨js7, q7, hjs7, rfl, hq7, eq7, eq7, ⟨_, _, _, _, _, _, _, _, _, _, rfl, ⟨nv, nl, hnv, by omega, hnl, by omega⟩, ⟨nva, nla, hnva, by omega, hnla, by omega⟩, ⟨nv0, nl0, hnv0, by omega, hnl0, by omega⟩, ⟨nv1, nl1, hnv1, by omega, hnl1, by omega⟩, rfl, rfl⟩⟩), show PP G (xw G h x wn wa w0 w1 rd wr (oA z 1 (upd (z.2 1) js7 (-1 : Int32))) jj lt) t.heap by rw [ht]; exact hP⟩, hS.F ht⟩) hS.2.2 dX4_drop_38
  · skip
    refine lv_istore_n (lv' := [(2, .int (-1000000001 : Int32)), (0, .ref (h 0)), (1, .int s1)]) hx hb dX4_drop_10 rfl hl (by decide) rfl (fun ls hl => ?_)
    refine lv_iload_n hx hb dX4_drop_11 rfl (lv_at hl 0 rfl) ?_
    refine lv_if_eq (tgt := 17) hx hb dX4_drop_12 (by decide) (fun c9 => absurd c9 (by decide)) (fun _ => ?_)
    refine lv_iload_n hx hb dX4_drop_15 rfl (lv_at hl 0 rfl) ?_
    exact W.iret (v := (-1000000001 : Int32)) hx hb hr (fun t ht hW => ⟨⟨(-1000000001 : Int32), (x, wn, wa, w0, w1, rd, wr, z, jj, lt), rfl, Or.inl ⟨rfl, ⟨_, _, _, _, _, _, _, _, _, _, rfl, ⟨nv, nl, hnv, by omega, hnl, by omega⟩, ⟨nva, nla, hnva, by omega, hnla, by omega⟩, ⟨nv0, nl0, hnv0, by omega, hnl0, by omega⟩, ⟨nv1, nl1, hnv1, by omega, hnl1, by omega⟩, rfl, rfl⟩, hnu7⟩, show PP G (xw G h x wn wa w0 w1 rd wr z jj lt) t.heap by rw [ht]; exact hP⟩, hS.F ht⟩) hS.2.2 dX4_drop_16
  · skip
    refine lv_istore_n (lv' := [(2, .int (-1000000011 : Int32)), (0, .ref (h 0)), (1, .int (nI js7))]) hx hb dX4_drop_10 rfl hl (by decide) rfl (fun ls hl => ?_)
    refine lv_iload_n hx hb dX4_drop_11 rfl (lv_at hl 0 rfl) ?_
    refine lv_if_eq (tgt := 17) hx hb dX4_drop_12 (by decide) (fun c9 => absurd c9 (by decide)) (fun _ => ?_)
    refine lv_iload_n hx hb dX4_drop_15 rfl (lv_at hl 0 rfl) ?_
    exact W.iret (v := (-1000000011 : Int32)) hx hb hr (fun t ht hW => ⟨⟨(-1000000011 : Int32), (x, wn, wa, w0, w1, rd, wr, z, jj, lt), rfl, Or.inr (Or.inl ⟨js7, hjs7, rfl, eq7, rfl, ⟨_, _, _, _, _, _, _, _, _, _, rfl, ⟨nv, nl, hnv, by omega, hnl, by omega⟩, ⟨nva, nla, hnva, by omega, hnla, by omega⟩, ⟨nv0, nl0, hnv0, by omega, hnl0, by omega⟩, ⟨nv1, nl1, hnv1, by omega, hnl1, by omega⟩, rfl, rfl⟩⟩), show PP G (xw G h x wn wa w0 w1 rd wr z jj lt) t.heap by rw [ht]; exact hP⟩, hS.F ht⟩) hS.2.2 dX4_drop_16
  · skip
    exact absurd ⟨0, 0, rfl, rfl, Nat.zero_le _⟩ hpl7
set_option maxHeartbeats 1000000 in
set_option maxRecDepth 100000 in
theorem mt_X4_film (l : Launch) (G : gG) (h : Nat → Nat) (sz : Nat) (x : oS) (wn : oS) (wa : oS) (w0 : oS) (w1 : oS) (rd : oS) (wr : oS) (z : oS) (jj : Nat → Nat → Int64) (lt : Int64) (nv : Nat) (nl : Nat) (nva : Nat) (nla : Nat) (nv0 : Nat) (nl0 : Nat) (nv1 : Nat) (nl1 : Nat) (len : Nat) (a : Int32) (s1 : Int32) (i1 : Int32) (hnv : wn.1 0 = nI nv) (hnl : wn.1 5 = nI nl) (hnva : wa.1 0 = nI nva) (hnla : wa.1 5 = nI nla) (hnv0 : w0.1 0 = nI nv0) (hnl0 : w0.1 5 = nI nl0) (hnv1 : w1.1 0 = nI nv1) (hnl1 : w1.1 5 = nI nl1) (hlen : rd.1 1 = nI len) (hnv24 : nv ≤ 24) (hnl120 : nl ≤ 120) (hva24 : nva ≤ 24) (hla120 : nla ≤ 120) (hv024 : nv0 ≤ 24) (hl0120 : nl0 ≤ 120) (hv124 : nv1 ≤ 24) (hl1120 : nl1 ≤ 120) (hl240 : len ≤ 240) (hsz : ∀ j, j < 4 → z.2 1 j = -1 ∨ ∃ q, q ≤ 40 ∧ z.2 1 j = nI q) : Met l yX4_film wsX4_film ({ frames := 3, cells := 0, slots := 0, locals := 67 }) (preW G (xw G h x wn wa w0 w1 rd wr z jj lt) sz [.ref (h 0), .int a, .int s1, .int i1]) (va_Qi (fun (r : Int32) (v : oS × oS × oS × oS × oS × oS × oS × oS × (Nat → Nat → Int64) × Int64) => XQ rd z v) (fun v t => PP G (xw G h v.1 v.2.1 v.2.2.1 v.2.2.2.1 v.2.2.2.2.1 v.2.2.2.2.2.1 v.2.2.2.2.2.2.1 v.2.2.2.2.2.2.2.1 v.2.2.2.2.2.2.2.2.1 v.2.2.2.2.2.2.2.2.2) t.heap) (va_A (xw G h x wn wa w0 w1 rd wr z jj lt) sz)) 0 0 (va_A (xw G h x wn wa w0 w1 rd wr z jj lt) sz) := by
  refine Met.ofW (cc := cX4_film) (maxL := 8) (ret := (some .int)) (by decide) rfl ?_
  intro p e s m args below meth c s₁ B hml hv
  obtain ⟨ha, hsz, hP, hK, hN, hD0⟩ := hv
  subst ha
  have hx := B.exec
  have hb := B.bytes
  have hr := B.returns
  have hts := atoms_spec (ws := wsX4_film) B.pre
  have hown : s.vm.findClass RX4 = some m.cls := findClass_of_methodNamed B.named
  have hlocks := B.notSynchronized
  subst hsz
  have hD := hD0.self (sz := s.heap.size)
  generalize hAe : va_A (xw G h x wn wa w0 w1 rd wr z jj lt) s.heap.size = A at hD ⊢
  have hA : ∀ q : Nat, s.heap.size ≤ q → A q := fun q h => by rw [← hAe]; exact Or.inr h
  clear hAe hD0
  have hS : va_S A s.heap s.heap [] := va_S.rf
  have hiX4 : ∀ w ∈ wsX40, w ∈ wsX4_film := by decide +kernel
  have k10 := hts (.fieldLink RX4 10 "WovenHistory" "now" "LWovenHistory$Weave;") (List.mem_of_getElem? (i := 1) rfl)
  have hiX3 : ∀ w ∈ wsX30, w ∈ wsX4_film := by decide +kernel
  have k115 : (Cond.fieldLinkNest "WovenHistory" 115 "WovenHistory$Weave" "changes" "[I" "WovenHistory").before _ s = true := va_Nw.use (A := ([.ref (h 0), .int a, .int s1, .int i1] : List Value).toArray) rfl (hN.1 ("WovenHistory", 115, "WovenHistory$Weave", "changes", "[I") (List.mem_of_getElem? (i := 1) rfl))
  have k37 := hts (.fieldLink RX4 37 "WovenHistory" "sheets" "LWovenHistory$Sheets;") (List.mem_of_getElem? (i := 3) rfl)
  have k85 : (Cond.fieldLinkNest "WovenHistory" 85 "WovenHistory$Weave" "lines" "I" "WovenHistory").before _ s = true := va_Nw.use (A := ([.ref (h 0), .int a, .int s1, .int i1] : List Value).toArray) rfl (hN.1 ("WovenHistory", 85, "WovenHistory$Weave", "lines", "I") (List.mem_of_getElem? (i := 13) rfl))
  have hiX2 : ∀ w ∈ wsX20, w ∈ wsX4_film := by decide +kernel
  have k229 : (Cond.fieldLinkNest "WovenHistory" 229 "WovenHistory$Sheets" "numbers" "[[J" "WovenHistory").before _ s = true := va_Nw.use (A := ([.ref (h 0), .int a, .int s1, .int i1] : List Value).toArray) rfl (hN.1 ("WovenHistory", 229, "WovenHistory$Sheets", "numbers", "[[J") (List.mem_of_getElem? (i := 7) rfl))
  have hl := lv_entry ([.ref (h 0), .int a, .int s1, .int i1]) (n := 8) (Nat.le_of_ble_eq_true rfl)
  rw [lg_entry_eq]
  generalize (lg_sl ([.ref (h 0), .int a, .int s1, .int i1]) ++ List.replicate (8 - (lg_sl ([.ref (h 0), .int a, .int s1, .int i1])).length) Slot.unset).toArray = ls at hl ⊢
  have hl : lv_has ls 8 [(0, .ref (h 0)), (1, .int a), (2, .int s1), (3, .int i1)] := hl
  refine lv_aload_n hx hb dX4_film_0 rfl (lv_at hl 0 rfl) ?_
  refine va_get (D := gD G) (ci := 4) (v := .ref (h 10)) (C := RX4) (T := TX4) (N := 9) hx hb hts hiX4 hown hK hP 0 rfl rfl 0 (by decide) k10 (fun _ h9 => h9) rfl dX4_film_1 ?_
  refine lv_iload_n hx hb dX4_film_4 rfl (lv_at hl 1 rfl) ?_
  refine cRi (w := wv G (fun k => h (10 + k)) wn) (As := [.int a]) (rest := []) ⟨hx, hb, hml, hown, hts⟩ (mt_X3_hasVersion l G (fun k => h (10 + k)) wn nv a (hnv) (by first | assumption | omega)) (cwV 1 hts gX4_film_X3_hasVersion rfl rfl rfl (by decide +kernel) ⟨Nat.le_of_ble_eq_true rfl, Nat.le_of_ble_eq_true rfl⟩) hK hN (hP.sub [3, 4, 5, 6, 7, 8, 9, 10] rfl) 0 3 rfl rfl rfl hl.1 rfl (Nat.le_of_ble_eq_true rfl) ⟨Nat.zero_le _, Nat.zero_le _⟩ dX4_film_5 (fun r5 hw5 => ?_)
  rcases hw5 with ⟨rfl, a1, ha1, rfl⟩ | ⟨rfl, hna1⟩
  · skip
    refine lv_if_ne (tgt := 14) hx hb dX4_film_8 (by decide) (fun _ => ?_) (fun c9 => absurd c9 (by decide))
    refine lv_aload_n hx hb dX4_film_14 rfl (lv_at hl 0 rfl) ?_
    refine va_get (D := gD G) (ci := 4) (v := .ref (h 10)) (C := RX4) (T := TX4) (N := 9) hx hb hts hiX4 hown hK hP 0 rfl rfl 0 (by decide) k10 (fun _ h9 => h9) rfl dX4_film_15 ?_
    refine lv_aload_n hx hb dX4_film_18 rfl (lv_at hl 0 rfl) ?_
    refine va_get (D := gD G) (ci := 4) (v := .ref (h 10)) (C := RX4) (T := TX4) (N := 9) hx hb hts hiX4 hown hK hP 0 rfl rfl 0 (by decide) k10 (fun _ h9 => h9) rfl dX4_film_19 ?_
    refine va_getN (D := gD G) (ci := 3) (v := .ref (h 14)) (C := RX3) (T := TX3) (N := 9) hx hb hts hiX3 hown hK hP 3 rfl rfl 4 (by decide) k115 (fun _ h9 => h9) rfl dX4_film_22 ?_
    refine lv_iload_n hx hb dX4_film_25 rfl (lv_at hl 1 rfl) ?_
    refine ialdN (f := wn.2 4) (n := 24) (k := a1) hx hb hK hP 7 rfl rfl (by omega) dX4_film_26 ?_
    refine cRi (w := wv G (fun k => h (10 + k)) wn) (As := [.int ((wn.2 4) a1)]) (rest := []) ⟨hx, hb, hml, hown, hts⟩ (mt_X3_countStanding l G (fun k => h (10 + k)) wn nl ((wn.2 4) a1) (hnl) (by first | assumption | omega)) (cwV 1 hts gX4_film_X3_countStanding rfl rfl rfl (by decide +kernel) ⟨Nat.le_of_ble_eq_true rfl, Nat.le_of_ble_eq_true rfl⟩) hK hN (hP.sub [3, 4, 5, 6, 7, 8, 9, 10] rfl) 0 3 rfl rfl rfl hl.1 rfl (Nat.le_of_ble_eq_true rfl) ⟨Nat.zero_le _, Nat.zero_le _⟩ dX4_film_27 (fun r27 hw27 => ?_)
    obtain rfl := hw27
    have hc27 := cnt_le (sdb (wn.2 7) (wn.2 8) ((wn.2 4) a1)) nl
    refine lv_istore (lv' := [(4, .int (nI (cnt (sdb (wn.2 7) (wn.2 8) ((wn.2 4) a1)) nl))), (0, .ref (h 0)), (1, .int (nI a1)), (2, .int s1), (3, .int i1)]) hx hb dX4_film_30 hl (by decide) rfl (fun ls hl => ?_)
    refine lv_aload_n hx hb dX4_film_32 rfl (lv_at hl 1 rfl) ?_
    refine va_get (D := gD G) (ci := 4) (v := .ref (h 70)) (C := RX4) (T := TX4) (N := 9) hx hb hts hiX4 hown hK hP 0 rfl rfl 5 (by decide) k37 (fun _ h9 => h9) rfl dX4_film_33 ?_
    refine lv_iload_n hx hb dX4_film_36 rfl (lv_at hl 3 rfl) ?_
    refine lv_iload_n hx hb dX4_film_37 rfl (lv_at hl 4 rfl) ?_
    refine lv_iload hx hb dX4_film_38 (lv_at hl 0 rfl) ?_
    refine cRi (w := sv G (fun k => h (70 + k)) z jj) (As := [.int s1, .int i1, .int (nI (cnt (sdb (wn.2 7) (wn.2 8) ((wn.2 4) a1)) nl))]) (rest := []) ⟨hx, hb, hml, hown, hts⟩ (mt_X2_findWrong l G (fun k => h (70 + k)) z jj s1 i1 (nI (cnt (sdb (wn.2 7) (wn.2 8) ((wn.2 4) a1)) nl)) (by first | assumption | omega)) (cwV 3 hts gX4_film_X2_findWrong rfl rfl rfl (by decide +kernel) ⟨Nat.le_of_ble_eq_true rfl, Nat.le_of_ble_eq_true rfl⟩) hK hN (hP.sub [47, 48, 49, 50, 51, 52, 53] rfl) 0 2 rfl rfl rfl hl.1 rfl (Nat.le_of_ble_eq_true rfl) ⟨Nat.zero_le _, Nat.zero_le _⟩ dX4_film_40 (fun r40 hw40 => ?_)
    rcases hw40 with ⟨rfl, js40, ji40, nn40, q40, hjs40, rfl, hq40, eq40, rfl, enn40, hs40⟩ | ⟨rfl, hnu40⟩ | ⟨rfl, js40, hjs40, ejs40, eq40⟩ | ⟨rfl, js40, q40, hjs40, ejs40, hq40, eq40, hpl40⟩
    · skip
      refine lv_istore (lv' := [(5, .int (0 : Int32)), (4, .int (nI (cnt (sdb (wn.2 7) (wn.2 8) ((wn.2 4) a1)) nl))), (0, .ref (h 0)), (1, .int (nI a1)), (2, .int (nI js40)), (3, .int (nI ji40))]) hx hb dX4_film_43 hl (by decide) rfl (fun ls hl => ?_)
      refine lv_iload hx hb dX4_film_45 (lv_at hl 0 rfl) ?_
      refine lv_if_eq (tgt := 53) hx hb dX4_film_47 (by decide) (fun _ => ?_) (fun c9 => absurd (by decide) c9)
      have hnn : cnt (sdb (wn.2 7) (wn.2 8) (wn.2 4 a1)) nl = nn40 := (nI_eq (a := cnt (sdb (wn.2 7) (wn.2 8) (wn.2 4 a1)) nl) (b := nn40) (by omega) (by omega)).mp enn40
      rcases (show js40 = 0 ∨ js40 = 1 ∨ js40 = 2 ∨ js40 = 3 by omega) with rfl | rfl | rfl | rfl
      · skip
        refine lv_iload_n hx hb dX4_film_53 rfl (lv_at hl 5 rfl) ?_
        refine lv_istore (lv' := [(6, .int (nI ji40)), (5, .int (0 : Int32)), (4, .int (nI (cnt (sdb (wn.2 7) (wn.2 8) ((wn.2 4) a1)) nl))), (0, .ref (h 0)), (1, .int (nI a1)), (2, .int (nI 0)), (3, .int (nI ji40))]) hx hb dX4_film_54 hl (by decide) rfl (fun ls hl => ?_)
        refine lv_iconst (v := nI 0) hx hb dX4_film_56 (by decide) ?_
        refine lv_istore (lv' := [(7, .int (nI 0)), (6, .int (nI ji40)), (5, .int (0 : Int32)), (4, .int (nI (cnt (sdb (wn.2 7) (wn.2 8) ((wn.2 4) a1)) nl))), (0, .ref (h 0)), (1, .int (nI a1)), (2, .int (nI 0)), (3, .int (nI ji40))]) hx hb dX4_film_57 hl (by decide) rfl (fun ls hl => ?_)
        have LP59 : ∀ (n59m : Nat), ∀ (k : Nat) (pp : Nat) (jk : Nat → Nat → Int64) (hk : k ≤ nl) (hp : pp = ji40 + cnt (sdb (wn.2 7) (wn.2 8) (wn.2 4 a1)) k), (nl - k < n59m) → ∀ (H : Heap) (locs : List Loc) (ls : Array Slot), PP G (xw G h x wn wa w0 w1 rd wr z jk lt) H → va_D A (xw G h x wn wa w0 w1 rd wr z jk lt) → va_S A s.heap H locs → lv_has ls 8 [(0, .ref (h 0)), (1, .int (nI a1)), (2, .int (nI 0)), (4, .int (nI (cnt (sdb (wn.2 7) (wn.2 8) (wn.2 4 a1)) nl))), (6, .int (nI pp)), (7, .int (nI k))] → W p l e (headSpec wsX4_film ({ frames := 3, cells := 0, slots := 0, locals := 67 })).room s m ([.ref (h 0), .int (nI a1), .int (nI 0), .int (nI ji40)] : List Value).toArray below meth c H locs 0 0 (MQ below (va_Qi (fun (r : Int32) (v : oS × oS × oS × oS × oS × oS × oS × oS × (Nat → Nat → Int64) × Int64) => XQ rd z v) (fun v t => PP G (xw G h v.1 v.2.1 v.2.2.1 v.2.2.2.1 v.2.2.2.2.1 v.2.2.2.2.2.1 v.2.2.2.2.2.2.1 v.2.2.2.2.2.2.2.1 v.2.2.2.2.2.2.2.2.1 v.2.2.2.2.2.2.2.2.2) t.heap) A) ([.ref (h 0), .int (nI a1), .int (nI 0), .int (nI ji40)] : List Value).toArray s 0 0 A) (F0 m 59 ls []) := by
          intro n59m
          induction n59m with
          | zero => intro k pp jk hk hp hmu H locs ls hP hD hS hl; exact absurd hmu (Nat.not_lt_zero _)
          | succ n59m ih59 =>
            intro k pp jk hk hp hmu H locs ls hP hD hS hl
            refine lv_iload hx hb dX4_film_59 (lv_at hl 5 rfl) ?_
            refine lv_aload_n hx hb dX4_film_61 rfl (lv_at hl 0 rfl) ?_
            refine va_get (D := gD G) (ci := 4) (v := .ref (h 10)) (C := RX4) (T := TX4) (N := 9) hx hb hts hiX4 hown hK hP 0 rfl rfl 0 (by decide) k10 (fun _ h9 => h9) rfl dX4_film_62 ?_
            refine va_getN (D := gD G) (ci := 3) (v := .int (wn.1 5)) (C := RX3) (T := TX3) (N := 9) hx hb hts hiX3 hown hK hP 3 rfl rfl 5 (by decide) k85 (fun _ h9 => h9) rfl dX4_film_65 ?_
            refine topE hnl ?_
            refine lv_icmp_ge (tgt := 122) hx hb dX4_film_68 (by decide) (fun c68 => ?_) (fun c68 => ?_)
            · skip
              have n68 : nl ≤ k := (nI_leI (a := nl) (b := k) (by omega) (by omega)).mp c68
              refine lv_iload hx hb dX4_film_122 (lv_at hl 3 rfl) ?_
              exact W.iret (v := nI (cnt (sdb (wn.2 7) (wn.2 8) (wn.2 4 a1)) nl)) hx hb hr (fun t ht hW => ⟨⟨nI (cnt (sdb (wn.2 7) (wn.2 8) (wn.2 4 a1)) nl), (x, wn, wa, w0, w1, rd, wr, z, jk, lt), rfl, ⟨_, _, _, _, _, _, _, _, _, _, rfl, ⟨nv, nl, hnv, by omega, hnl, by omega⟩, ⟨nva, nla, hnva, by omega, hnla, by omega⟩, ⟨nv0, nl0, hnv0, by omega, hnl0, by omega⟩, ⟨nv1, nl1, hnv1, by omega, hnl1, by omega⟩, rfl, rfl⟩, show PP G (xw G h x wn wa w0 w1 rd wr z jk lt) t.heap by rw [ht]; exact hP⟩, hS.F ht⟩) hS.2.2 dX4_film_124
            · skip
              have n68 : ¬ (nl ≤ k) := fun q9 => c68 ((nI_leI (a := nl) (b := k) (by omega) (by omega)).mpr q9)
              refine lv_aload_n hx hb dX4_film_71 rfl (lv_at hl 0 rfl) ?_
              refine va_get (D := gD G) (ci := 4) (v := .ref (h 10)) (C := RX4) (T := TX4) (N := 9) hx hb hts hiX4 hown hK hP 0 rfl rfl 0 (by decide) k10 (fun _ h9 => h9) rfl dX4_film_72 ?_
              refine lv_iload hx hb dX4_film_75 (lv_at hl 5 rfl) ?_
              refine lv_aload_n hx hb dX4_film_77 rfl (lv_at hl 0 rfl) ?_
              refine va_get (D := gD G) (ci := 4) (v := .ref (h 10)) (C := RX4) (T := TX4) (N := 9) hx hb hts hiX4 hown hK hP 0 rfl rfl 0 (by decide) k10 (fun _ h9 => h9) rfl dX4_film_78 ?_
              refine va_getN (D := gD G) (ci := 3) (v := .ref (h 14)) (C := RX3) (T := TX3) (N := 9) hx hb hts hiX3 hown hK hP 3 rfl rfl 4 (by decide) k115 (fun _ h9 => h9) rfl dX4_film_81 ?_
              refine lv_iload_n hx hb dX4_film_84 rfl (lv_at hl 1 rfl) ?_
              refine ialdN (f := wn.2 4) (n := 24) (k := a1) hx hb hK hP 7 rfl rfl (by omega) dX4_film_85 ?_
              refine cRi (w := wv G (fun k => h (10 + k)) wn) (As := [.int (nI k), .int ((wn.2 4) a1)]) (rest := []) ⟨hx, hb, hml, hown, hts⟩ (mt_X3_stands l G (fun k => h (10 + k)) wn k ((wn.2 4) a1) (by first | assumption | omega)) (cwV 2 hts gX4_film_X3_stands rfl rfl rfl (by decide +kernel) ⟨Nat.le_of_ble_eq_true rfl, Nat.le_of_ble_eq_true rfl⟩) hK hN (hP.sub [3, 4, 5, 6, 7, 8, 9, 10] rfl) 0 3 rfl rfl rfl hl.1 rfl (Nat.le_of_ble_eq_true rfl) ⟨Nat.zero_le _, Nat.zero_le _⟩ dX4_film_86 (fun r86 hw86 => ?_)
              rcases hw86 with ⟨rfl, hy86⟩ | ⟨rfl, hn86⟩
              · skip
                refine lv_if_eq (tgt := 116) hx hb dX4_film_89 (by decide) (fun c9 => absurd c9 (by decide)) (fun _ => ?_)
                refine lv_aload_n hx hb dX4_film_92 rfl (lv_at hl 0 rfl) ?_
                refine va_get (D := gD G) (ci := 4) (v := .ref (h 70)) (C := RX4) (T := TX4) (N := 9) hx hb hts hiX4 hown hK hP 0 rfl rfl 5 (by decide) k37 (fun _ h9 => h9) rfl dX4_film_93 ?_
                refine va_getN (D := gD G) (ci := 2) (v := .ref (h 71)) (C := RX2) (T := TX2) (N := 2) hx hb hts hiX2 hown hK hP 47 rfl rfl 0 (by decide) k229 (fun _ h9 => h9) rfl dX4_film_96 ?_
                refine lv_iload_n hx hb dX4_film_99 rfl (lv_at hl 2 rfl) ?_
                refine aaldJ (f := fun i => some (h (73 + i))) (n := 4) (k := 0) (b := h 73) hx hb hK hP 48 rfl rfl (by decide) rfl dX4_film_100 ?_
                refine lv_iload hx hb dX4_film_101 (lv_at hl 4 rfl) ?_
                refine lv_aload_n hx hb dX4_film_103 rfl (lv_at hl 0 rfl) ?_
                refine va_get (D := gD G) (ci := 4) (v := .ref (h 10)) (C := RX4) (T := TX4) (N := 9) hx hb hts hiX4 hown hK hP 0 rfl rfl 0 (by decide) k10 (fun _ h9 => h9) rfl dX4_film_104 ?_
                refine lv_iload hx hb dX4_film_107 (lv_at hl 5 rfl) ?_
                refine cRl (w := wv G (fun k => h (10 + k)) wn) (As := [.int (nI k)]) (rest := [.int (nI pp), .ref (h 73)]) ⟨hx, hb, hml, hown, hts⟩ (mt_X3_pictureOf l G (fun k => h (10 + k)) wn nv k (hnv) (by first | assumption | omega) (by first | assumption | omega)) (cwV 1 hts gX4_film_X3_pictureOf rfl rfl rfl (by decide +kernel) ⟨Nat.le_of_ble_eq_true rfl, Nat.le_of_ble_eq_true rfl⟩) hK hN (hP.sub [3, 4, 5, 6, 7, 8, 9, 10] rfl) 0 3 rfl rfl rfl hl.1 rfl (Nat.le_of_ble_eq_true rfl) ⟨Nat.zero_le _, Nat.zero_le _⟩ dX4_film_109 (fun r109 hw109 => ?_)
                refine lastN (f := jk 0) (n := 40) (k := pp) hx hb hK hP hD hS 50 rfl rfl (by omega) dX4_film_112 (fun H locs hP hD hS => ?_)
                have hP : PP G (xw G h x wn wa w0 w1 rd wr z (va_up jk 0 (vp_updL (jk 0) pp r109)) lt) H := hP
                have hD : va_D A (xw G h x wn wa w0 w1 rd wr z (va_up jk 0 (vp_updL (jk 0) pp r109)) lt) := hD
                refine lv_iinc (v := nI (pp + 1)) (lv' := [(6, .int (nI (pp + 1))), (0, .ref (h 0)), (1, .int (nI a1)), (2, .int (nI 0)), (4, .int (nI (cnt (sdb (wn.2 7) (wn.2 8) (wn.2 4 a1)) nl))), (7, .int (nI k))]) hx hb dX4_film_113 hl (k := 4) rfl (nI_1 pp) (by decide) rfl (fun ls hl => ?_)
                refine lv_iinc (v := nI (k + 1)) (lv' := [(7, .int (nI (k + 1))), (6, .int (nI (pp + 1))), (0, .ref (h 0)), (1, .int (nI a1)), (2, .int (nI 0)), (4, .int (nI (cnt (sdb (wn.2 7) (wn.2 8) (wn.2 4 a1)) nl)))]) hx hb dX4_film_116 hl (k := 5) rfl (nI_1 k) (by decide) rfl (fun ls hl => ?_)
                refine lv_goto (tgt := 59) hx hb dX4_film_119 (by decide) ?_
                exact ih59 (k + 1) (pp + 1) (va_up jk 0 (vp_updL (jk 0) pp r109)) (by first | assumption | omega) (by first | rfl | omega | (rw [cnt_t (by assumption)]; omega) | (rw [cnt_f (by assumption)]; omega)) (by omega) _ _ ls hP hD hS (lv_sub hl [2, 3, 4, 5, 1, 0] rfl)
              · skip
                refine lv_if_eq (tgt := 116) hx hb dX4_film_89 (by decide) (fun _ => ?_) (fun c9 => absurd (by decide) c9)
                refine lv_iinc (v := nI (k + 1)) (lv' := [(7, .int (nI (k + 1))), (0, .ref (h 0)), (1, .int (nI a1)), (2, .int (nI 0)), (4, .int (nI (cnt (sdb (wn.2 7) (wn.2 8) (wn.2 4 a1)) nl))), (6, .int (nI pp))]) hx hb dX4_film_116 hl (k := 5) rfl (nI_1 k) (by decide) rfl (fun ls hl => ?_)
                refine lv_goto (tgt := 59) hx hb dX4_film_119 (by decide) ?_
                exact ih59 (k + 1) pp jk (by first | assumption | omega) (by first | rfl | omega | (rw [cnt_t (by assumption)]; omega) | (rw [cnt_f (by assumption)]; omega)) (by omega) _ _ ls hP hD hS (lv_sub hl [1, 2, 3, 4, 5, 0] rfl)
        exact LP59 (nl - 0 + 1) 0 ji40 jj (by first | assumption | omega) (by first | rfl | omega | (rw [cnt_t (by assumption)]; omega) | (rw [cnt_f (by assumption)]; omega)) (Nat.lt_succ_self _) _ _ ls hP hD hS (lv_sub hl [4, 5, 6, 3, 1, 0] rfl)
      · skip
        refine lv_iload_n hx hb dX4_film_53 rfl (lv_at hl 5 rfl) ?_
        refine lv_istore (lv' := [(6, .int (nI ji40)), (5, .int (0 : Int32)), (4, .int (nI (cnt (sdb (wn.2 7) (wn.2 8) ((wn.2 4) a1)) nl))), (0, .ref (h 0)), (1, .int (nI a1)), (2, .int (nI 1)), (3, .int (nI ji40))]) hx hb dX4_film_54 hl (by decide) rfl (fun ls hl => ?_)
        refine lv_iconst (v := nI 0) hx hb dX4_film_56 (by decide) ?_
        refine lv_istore (lv' := [(7, .int (nI 0)), (6, .int (nI ji40)), (5, .int (0 : Int32)), (4, .int (nI (cnt (sdb (wn.2 7) (wn.2 8) ((wn.2 4) a1)) nl))), (0, .ref (h 0)), (1, .int (nI a1)), (2, .int (nI 1)), (3, .int (nI ji40))]) hx hb dX4_film_57 hl (by decide) rfl (fun ls hl => ?_)
        have LP59 : ∀ (n59m : Nat), ∀ (k : Nat) (pp : Nat) (jk : Nat → Nat → Int64) (hk : k ≤ nl) (hp : pp = ji40 + cnt (sdb (wn.2 7) (wn.2 8) (wn.2 4 a1)) k), (nl - k < n59m) → ∀ (H : Heap) (locs : List Loc) (ls : Array Slot), PP G (xw G h x wn wa w0 w1 rd wr z jk lt) H → va_D A (xw G h x wn wa w0 w1 rd wr z jk lt) → va_S A s.heap H locs → lv_has ls 8 [(0, .ref (h 0)), (1, .int (nI a1)), (2, .int (nI 1)), (4, .int (nI (cnt (sdb (wn.2 7) (wn.2 8) (wn.2 4 a1)) nl))), (6, .int (nI pp)), (7, .int (nI k))] → W p l e (headSpec wsX4_film ({ frames := 3, cells := 0, slots := 0, locals := 67 })).room s m ([.ref (h 0), .int (nI a1), .int (nI 1), .int (nI ji40)] : List Value).toArray below meth c H locs 0 0 (MQ below (va_Qi (fun (r : Int32) (v : oS × oS × oS × oS × oS × oS × oS × oS × (Nat → Nat → Int64) × Int64) => XQ rd z v) (fun v t => PP G (xw G h v.1 v.2.1 v.2.2.1 v.2.2.2.1 v.2.2.2.2.1 v.2.2.2.2.2.1 v.2.2.2.2.2.2.1 v.2.2.2.2.2.2.2.1 v.2.2.2.2.2.2.2.2.1 v.2.2.2.2.2.2.2.2.2) t.heap) A) ([.ref (h 0), .int (nI a1), .int (nI 1), .int (nI ji40)] : List Value).toArray s 0 0 A) (F0 m 59 ls []) := by
          intro n59m
          induction n59m with
          | zero => intro k pp jk hk hp hmu H locs ls hP hD hS hl; exact absurd hmu (Nat.not_lt_zero _)
          | succ n59m ih59 =>
            intro k pp jk hk hp hmu H locs ls hP hD hS hl
            refine lv_iload hx hb dX4_film_59 (lv_at hl 5 rfl) ?_
            refine lv_aload_n hx hb dX4_film_61 rfl (lv_at hl 0 rfl) ?_
            refine va_get (D := gD G) (ci := 4) (v := .ref (h 10)) (C := RX4) (T := TX4) (N := 9) hx hb hts hiX4 hown hK hP 0 rfl rfl 0 (by decide) k10 (fun _ h9 => h9) rfl dX4_film_62 ?_
            refine va_getN (D := gD G) (ci := 3) (v := .int (wn.1 5)) (C := RX3) (T := TX3) (N := 9) hx hb hts hiX3 hown hK hP 3 rfl rfl 5 (by decide) k85 (fun _ h9 => h9) rfl dX4_film_65 ?_
            refine topE hnl ?_
            refine lv_icmp_ge (tgt := 122) hx hb dX4_film_68 (by decide) (fun c68 => ?_) (fun c68 => ?_)
            · skip
              have n68 : nl ≤ k := (nI_leI (a := nl) (b := k) (by omega) (by omega)).mp c68
              refine lv_iload hx hb dX4_film_122 (lv_at hl 3 rfl) ?_
              exact W.iret (v := nI (cnt (sdb (wn.2 7) (wn.2 8) (wn.2 4 a1)) nl)) hx hb hr (fun t ht hW => ⟨⟨nI (cnt (sdb (wn.2 7) (wn.2 8) (wn.2 4 a1)) nl), (x, wn, wa, w0, w1, rd, wr, z, jk, lt), rfl, ⟨_, _, _, _, _, _, _, _, _, _, rfl, ⟨nv, nl, hnv, by omega, hnl, by omega⟩, ⟨nva, nla, hnva, by omega, hnla, by omega⟩, ⟨nv0, nl0, hnv0, by omega, hnl0, by omega⟩, ⟨nv1, nl1, hnv1, by omega, hnl1, by omega⟩, rfl, rfl⟩, show PP G (xw G h x wn wa w0 w1 rd wr z jk lt) t.heap by rw [ht]; exact hP⟩, hS.F ht⟩) hS.2.2 dX4_film_124
            · skip
              have n68 : ¬ (nl ≤ k) := fun q9 => c68 ((nI_leI (a := nl) (b := k) (by omega) (by omega)).mpr q9)
              refine lv_aload_n hx hb dX4_film_71 rfl (lv_at hl 0 rfl) ?_
              refine va_get (D := gD G) (ci := 4) (v := .ref (h 10)) (C := RX4) (T := TX4) (N := 9) hx hb hts hiX4 hown hK hP 0 rfl rfl 0 (by decide) k10 (fun _ h9 => h9) rfl dX4_film_72 ?_
              refine lv_iload hx hb dX4_film_75 (lv_at hl 5 rfl) ?_
              refine lv_aload_n hx hb dX4_film_77 rfl (lv_at hl 0 rfl) ?_
              refine va_get (D := gD G) (ci := 4) (v := .ref (h 10)) (C := RX4) (T := TX4) (N := 9) hx hb hts hiX4 hown hK hP 0 rfl rfl 0 (by decide) k10 (fun _ h9 => h9) rfl dX4_film_78 ?_
              refine va_getN (D := gD G) (ci := 3) (v := .ref (h 14)) (C := RX3) (T := TX3) (N := 9) hx hb hts hiX3 hown hK hP 3 rfl rfl 4 (by decide) k115 (fun _ h9 => h9) rfl dX4_film_81 ?_
              refine lv_iload_n hx hb dX4_film_84 rfl (lv_at hl 1 rfl) ?_
              refine ialdN (f := wn.2 4) (n := 24) (k := a1) hx hb hK hP 7 rfl rfl (by omega) dX4_film_85 ?_
              refine cRi (w := wv G (fun k => h (10 + k)) wn) (As := [.int (nI k), .int ((wn.2 4) a1)]) (rest := []) ⟨hx, hb, hml, hown, hts⟩ (mt_X3_stands l G (fun k => h (10 + k)) wn k ((wn.2 4) a1) (by first | assumption | omega)) (cwV 2 hts gX4_film_X3_stands rfl rfl rfl (by decide +kernel) ⟨Nat.le_of_ble_eq_true rfl, Nat.le_of_ble_eq_true rfl⟩) hK hN (hP.sub [3, 4, 5, 6, 7, 8, 9, 10] rfl) 0 3 rfl rfl rfl hl.1 rfl (Nat.le_of_ble_eq_true rfl) ⟨Nat.zero_le _, Nat.zero_le _⟩ dX4_film_86 (fun r86 hw86 => ?_)
              rcases hw86 with ⟨rfl, hy86⟩ | ⟨rfl, hn86⟩
              · skip
                refine lv_if_eq (tgt := 116) hx hb dX4_film_89 (by decide) (fun c9 => absurd c9 (by decide)) (fun _ => ?_)
                refine lv_aload_n hx hb dX4_film_92 rfl (lv_at hl 0 rfl) ?_
                refine va_get (D := gD G) (ci := 4) (v := .ref (h 70)) (C := RX4) (T := TX4) (N := 9) hx hb hts hiX4 hown hK hP 0 rfl rfl 5 (by decide) k37 (fun _ h9 => h9) rfl dX4_film_93 ?_
                refine va_getN (D := gD G) (ci := 2) (v := .ref (h 71)) (C := RX2) (T := TX2) (N := 2) hx hb hts hiX2 hown hK hP 47 rfl rfl 0 (by decide) k229 (fun _ h9 => h9) rfl dX4_film_96 ?_
                refine lv_iload_n hx hb dX4_film_99 rfl (lv_at hl 2 rfl) ?_
                refine aaldJ (f := fun i => some (h (73 + i))) (n := 4) (k := 1) (b := h 74) hx hb hK hP 48 rfl rfl (by decide) rfl dX4_film_100 ?_
                refine lv_iload hx hb dX4_film_101 (lv_at hl 4 rfl) ?_
                refine lv_aload_n hx hb dX4_film_103 rfl (lv_at hl 0 rfl) ?_
                refine va_get (D := gD G) (ci := 4) (v := .ref (h 10)) (C := RX4) (T := TX4) (N := 9) hx hb hts hiX4 hown hK hP 0 rfl rfl 0 (by decide) k10 (fun _ h9 => h9) rfl dX4_film_104 ?_
                refine lv_iload hx hb dX4_film_107 (lv_at hl 5 rfl) ?_
                refine cRl (w := wv G (fun k => h (10 + k)) wn) (As := [.int (nI k)]) (rest := [.int (nI pp), .ref (h 74)]) ⟨hx, hb, hml, hown, hts⟩ (mt_X3_pictureOf l G (fun k => h (10 + k)) wn nv k (hnv) (by first | assumption | omega) (by first | assumption | omega)) (cwV 1 hts gX4_film_X3_pictureOf rfl rfl rfl (by decide +kernel) ⟨Nat.le_of_ble_eq_true rfl, Nat.le_of_ble_eq_true rfl⟩) hK hN (hP.sub [3, 4, 5, 6, 7, 8, 9, 10] rfl) 0 3 rfl rfl rfl hl.1 rfl (Nat.le_of_ble_eq_true rfl) ⟨Nat.zero_le _, Nat.zero_le _⟩ dX4_film_109 (fun r109 hw109 => ?_)
                refine lastN (f := jk 1) (n := 40) (k := pp) hx hb hK hP hD hS 51 rfl rfl (by omega) dX4_film_112 (fun H locs hP hD hS => ?_)
                have hP : PP G (xw G h x wn wa w0 w1 rd wr z (va_up jk 1 (vp_updL (jk 1) pp r109)) lt) H := hP
                have hD : va_D A (xw G h x wn wa w0 w1 rd wr z (va_up jk 1 (vp_updL (jk 1) pp r109)) lt) := hD
                refine lv_iinc (v := nI (pp + 1)) (lv' := [(6, .int (nI (pp + 1))), (0, .ref (h 0)), (1, .int (nI a1)), (2, .int (nI 1)), (4, .int (nI (cnt (sdb (wn.2 7) (wn.2 8) (wn.2 4 a1)) nl))), (7, .int (nI k))]) hx hb dX4_film_113 hl (k := 4) rfl (nI_1 pp) (by decide) rfl (fun ls hl => ?_)
                refine lv_iinc (v := nI (k + 1)) (lv' := [(7, .int (nI (k + 1))), (6, .int (nI (pp + 1))), (0, .ref (h 0)), (1, .int (nI a1)), (2, .int (nI 1)), (4, .int (nI (cnt (sdb (wn.2 7) (wn.2 8) (wn.2 4 a1)) nl)))]) hx hb dX4_film_116 hl (k := 5) rfl (nI_1 k) (by decide) rfl (fun ls hl => ?_)
                refine lv_goto (tgt := 59) hx hb dX4_film_119 (by decide) ?_
                exact ih59 (k + 1) (pp + 1) (va_up jk 1 (vp_updL (jk 1) pp r109)) (by first | assumption | omega) (by first | rfl | omega | (rw [cnt_t (by assumption)]; omega) | (rw [cnt_f (by assumption)]; omega)) (by omega) _ _ ls hP hD hS (lv_sub hl [2, 3, 4, 5, 1, 0] rfl)
              · skip
                refine lv_if_eq (tgt := 116) hx hb dX4_film_89 (by decide) (fun _ => ?_) (fun c9 => absurd (by decide) c9)
                refine lv_iinc (v := nI (k + 1)) (lv' := [(7, .int (nI (k + 1))), (0, .ref (h 0)), (1, .int (nI a1)), (2, .int (nI 1)), (4, .int (nI (cnt (sdb (wn.2 7) (wn.2 8) (wn.2 4 a1)) nl))), (6, .int (nI pp))]) hx hb dX4_film_116 hl (k := 5) rfl (nI_1 k) (by decide) rfl (fun ls hl => ?_)
                refine lv_goto (tgt := 59) hx hb dX4_film_119 (by decide) ?_
                exact ih59 (k + 1) pp jk (by first | assumption | omega) (by first | rfl | omega | (rw [cnt_t (by assumption)]; omega) | (rw [cnt_f (by assumption)]; omega)) (by omega) _ _ ls hP hD hS (lv_sub hl [1, 2, 3, 4, 5, 0] rfl)
        exact LP59 (nl - 0 + 1) 0 ji40 jj (by first | assumption | omega) (by first | rfl | omega | (rw [cnt_t (by assumption)]; omega) | (rw [cnt_f (by assumption)]; omega)) (Nat.lt_succ_self _) _ _ ls hP hD hS (lv_sub hl [4, 5, 6, 3, 1, 0] rfl)
      · skip
        refine lv_iload_n hx hb dX4_film_53 rfl (lv_at hl 5 rfl) ?_
        refine lv_istore (lv' := [(6, .int (nI ji40)), (5, .int (0 : Int32)), (4, .int (nI (cnt (sdb (wn.2 7) (wn.2 8) ((wn.2 4) a1)) nl))), (0, .ref (h 0)), (1, .int (nI a1)), (2, .int (nI 2)), (3, .int (nI ji40))]) hx hb dX4_film_54 hl (by decide) rfl (fun ls hl => ?_)
        refine lv_iconst (v := nI 0) hx hb dX4_film_56 (by decide) ?_
        refine lv_istore (lv' := [(7, .int (nI 0)), (6, .int (nI ji40)), (5, .int (0 : Int32)), (4, .int (nI (cnt (sdb (wn.2 7) (wn.2 8) ((wn.2 4) a1)) nl))), (0, .ref (h 0)), (1, .int (nI a1)), (2, .int (nI 2)), (3, .int (nI ji40))]) hx hb dX4_film_57 hl (by decide) rfl (fun ls hl => ?_)
        have LP59 : ∀ (n59m : Nat), ∀ (k : Nat) (pp : Nat) (jk : Nat → Nat → Int64) (hk : k ≤ nl) (hp : pp = ji40 + cnt (sdb (wn.2 7) (wn.2 8) (wn.2 4 a1)) k), (nl - k < n59m) → ∀ (H : Heap) (locs : List Loc) (ls : Array Slot), PP G (xw G h x wn wa w0 w1 rd wr z jk lt) H → va_D A (xw G h x wn wa w0 w1 rd wr z jk lt) → va_S A s.heap H locs → lv_has ls 8 [(0, .ref (h 0)), (1, .int (nI a1)), (2, .int (nI 2)), (4, .int (nI (cnt (sdb (wn.2 7) (wn.2 8) (wn.2 4 a1)) nl))), (6, .int (nI pp)), (7, .int (nI k))] → W p l e (headSpec wsX4_film ({ frames := 3, cells := 0, slots := 0, locals := 67 })).room s m ([.ref (h 0), .int (nI a1), .int (nI 2), .int (nI ji40)] : List Value).toArray below meth c H locs 0 0 (MQ below (va_Qi (fun (r : Int32) (v : oS × oS × oS × oS × oS × oS × oS × oS × (Nat → Nat → Int64) × Int64) => XQ rd z v) (fun v t => PP G (xw G h v.1 v.2.1 v.2.2.1 v.2.2.2.1 v.2.2.2.2.1 v.2.2.2.2.2.1 v.2.2.2.2.2.2.1 v.2.2.2.2.2.2.2.1 v.2.2.2.2.2.2.2.2.1 v.2.2.2.2.2.2.2.2.2) t.heap) A) ([.ref (h 0), .int (nI a1), .int (nI 2), .int (nI ji40)] : List Value).toArray s 0 0 A) (F0 m 59 ls []) := by
          intro n59m
          induction n59m with
          | zero => intro k pp jk hk hp hmu H locs ls hP hD hS hl; exact absurd hmu (Nat.not_lt_zero _)
          | succ n59m ih59 =>
            intro k pp jk hk hp hmu H locs ls hP hD hS hl
            refine lv_iload hx hb dX4_film_59 (lv_at hl 5 rfl) ?_
            refine lv_aload_n hx hb dX4_film_61 rfl (lv_at hl 0 rfl) ?_
            refine va_get (D := gD G) (ci := 4) (v := .ref (h 10)) (C := RX4) (T := TX4) (N := 9) hx hb hts hiX4 hown hK hP 0 rfl rfl 0 (by decide) k10 (fun _ h9 => h9) rfl dX4_film_62 ?_
            refine va_getN (D := gD G) (ci := 3) (v := .int (wn.1 5)) (C := RX3) (T := TX3) (N := 9) hx hb hts hiX3 hown hK hP 3 rfl rfl 5 (by decide) k85 (fun _ h9 => h9) rfl dX4_film_65 ?_
            refine topE hnl ?_
            refine lv_icmp_ge (tgt := 122) hx hb dX4_film_68 (by decide) (fun c68 => ?_) (fun c68 => ?_)
            · skip
              have n68 : nl ≤ k := (nI_leI (a := nl) (b := k) (by omega) (by omega)).mp c68
              refine lv_iload hx hb dX4_film_122 (lv_at hl 3 rfl) ?_
              exact W.iret (v := nI (cnt (sdb (wn.2 7) (wn.2 8) (wn.2 4 a1)) nl)) hx hb hr (fun t ht hW => ⟨⟨nI (cnt (sdb (wn.2 7) (wn.2 8) (wn.2 4 a1)) nl), (x, wn, wa, w0, w1, rd, wr, z, jk, lt), rfl, ⟨_, _, _, _, _, _, _, _, _, _, rfl, ⟨nv, nl, hnv, by omega, hnl, by omega⟩, ⟨nva, nla, hnva, by omega, hnla, by omega⟩, ⟨nv0, nl0, hnv0, by omega, hnl0, by omega⟩, ⟨nv1, nl1, hnv1, by omega, hnl1, by omega⟩, rfl, rfl⟩, show PP G (xw G h x wn wa w0 w1 rd wr z jk lt) t.heap by rw [ht]; exact hP⟩, hS.F ht⟩) hS.2.2 dX4_film_124
            · skip
              have n68 : ¬ (nl ≤ k) := fun q9 => c68 ((nI_leI (a := nl) (b := k) (by omega) (by omega)).mpr q9)
              refine lv_aload_n hx hb dX4_film_71 rfl (lv_at hl 0 rfl) ?_
              refine va_get (D := gD G) (ci := 4) (v := .ref (h 10)) (C := RX4) (T := TX4) (N := 9) hx hb hts hiX4 hown hK hP 0 rfl rfl 0 (by decide) k10 (fun _ h9 => h9) rfl dX4_film_72 ?_
              refine lv_iload hx hb dX4_film_75 (lv_at hl 5 rfl) ?_
              refine lv_aload_n hx hb dX4_film_77 rfl (lv_at hl 0 rfl) ?_
              refine va_get (D := gD G) (ci := 4) (v := .ref (h 10)) (C := RX4) (T := TX4) (N := 9) hx hb hts hiX4 hown hK hP 0 rfl rfl 0 (by decide) k10 (fun _ h9 => h9) rfl dX4_film_78 ?_
              refine va_getN (D := gD G) (ci := 3) (v := .ref (h 14)) (C := RX3) (T := TX3) (N := 9) hx hb hts hiX3 hown hK hP 3 rfl rfl 4 (by decide) k115 (fun _ h9 => h9) rfl dX4_film_81 ?_
              refine lv_iload_n hx hb dX4_film_84 rfl (lv_at hl 1 rfl) ?_
              refine ialdN (f := wn.2 4) (n := 24) (k := a1) hx hb hK hP 7 rfl rfl (by omega) dX4_film_85 ?_
              refine cRi (w := wv G (fun k => h (10 + k)) wn) (As := [.int (nI k), .int ((wn.2 4) a1)]) (rest := []) ⟨hx, hb, hml, hown, hts⟩ (mt_X3_stands l G (fun k => h (10 + k)) wn k ((wn.2 4) a1) (by first | assumption | omega)) (cwV 2 hts gX4_film_X3_stands rfl rfl rfl (by decide +kernel) ⟨Nat.le_of_ble_eq_true rfl, Nat.le_of_ble_eq_true rfl⟩) hK hN (hP.sub [3, 4, 5, 6, 7, 8, 9, 10] rfl) 0 3 rfl rfl rfl hl.1 rfl (Nat.le_of_ble_eq_true rfl) ⟨Nat.zero_le _, Nat.zero_le _⟩ dX4_film_86 (fun r86 hw86 => ?_)
              rcases hw86 with ⟨rfl, hy86⟩ | ⟨rfl, hn86⟩
              · skip
                refine lv_if_eq (tgt := 116) hx hb dX4_film_89 (by decide) (fun c9 => absurd c9 (by decide)) (fun _ => ?_)
                refine lv_aload_n hx hb dX4_film_92 rfl (lv_at hl 0 rfl) ?_
                refine va_get (D := gD G) (ci := 4) (v := .ref (h 70)) (C := RX4) (T := TX4) (N := 9) hx hb hts hiX4 hown hK hP 0 rfl rfl 5 (by decide) k37 (fun _ h9 => h9) rfl dX4_film_93 ?_
                refine va_getN (D := gD G) (ci := 2) (v := .ref (h 71)) (C := RX2) (T := TX2) (N := 2) hx hb hts hiX2 hown hK hP 47 rfl rfl 0 (by decide) k229 (fun _ h9 => h9) rfl dX4_film_96 ?_
                refine lv_iload_n hx hb dX4_film_99 rfl (lv_at hl 2 rfl) ?_
                refine aaldJ (f := fun i => some (h (73 + i))) (n := 4) (k := 2) (b := h 75) hx hb hK hP 48 rfl rfl (by decide) rfl dX4_film_100 ?_
                refine lv_iload hx hb dX4_film_101 (lv_at hl 4 rfl) ?_
                refine lv_aload_n hx hb dX4_film_103 rfl (lv_at hl 0 rfl) ?_
                refine va_get (D := gD G) (ci := 4) (v := .ref (h 10)) (C := RX4) (T := TX4) (N := 9) hx hb hts hiX4 hown hK hP 0 rfl rfl 0 (by decide) k10 (fun _ h9 => h9) rfl dX4_film_104 ?_
                refine lv_iload hx hb dX4_film_107 (lv_at hl 5 rfl) ?_
                refine cRl (w := wv G (fun k => h (10 + k)) wn) (As := [.int (nI k)]) (rest := [.int (nI pp), .ref (h 75)]) ⟨hx, hb, hml, hown, hts⟩ (mt_X3_pictureOf l G (fun k => h (10 + k)) wn nv k (hnv) (by first | assumption | omega) (by first | assumption | omega)) (cwV 1 hts gX4_film_X3_pictureOf rfl rfl rfl (by decide +kernel) ⟨Nat.le_of_ble_eq_true rfl, Nat.le_of_ble_eq_true rfl⟩) hK hN (hP.sub [3, 4, 5, 6, 7, 8, 9, 10] rfl) 0 3 rfl rfl rfl hl.1 rfl (Nat.le_of_ble_eq_true rfl) ⟨Nat.zero_le _, Nat.zero_le _⟩ dX4_film_109 (fun r109 hw109 => ?_)
                refine lastN (f := jk 2) (n := 40) (k := pp) hx hb hK hP hD hS 52 rfl rfl (by omega) dX4_film_112 (fun H locs hP hD hS => ?_)
                have hP : PP G (xw G h x wn wa w0 w1 rd wr z (va_up jk 2 (vp_updL (jk 2) pp r109)) lt) H := hP
                have hD : va_D A (xw G h x wn wa w0 w1 rd wr z (va_up jk 2 (vp_updL (jk 2) pp r109)) lt) := hD
                refine lv_iinc (v := nI (pp + 1)) (lv' := [(6, .int (nI (pp + 1))), (0, .ref (h 0)), (1, .int (nI a1)), (2, .int (nI 2)), (4, .int (nI (cnt (sdb (wn.2 7) (wn.2 8) (wn.2 4 a1)) nl))), (7, .int (nI k))]) hx hb dX4_film_113 hl (k := 4) rfl (nI_1 pp) (by decide) rfl (fun ls hl => ?_)
                refine lv_iinc (v := nI (k + 1)) (lv' := [(7, .int (nI (k + 1))), (6, .int (nI (pp + 1))), (0, .ref (h 0)), (1, .int (nI a1)), (2, .int (nI 2)), (4, .int (nI (cnt (sdb (wn.2 7) (wn.2 8) (wn.2 4 a1)) nl)))]) hx hb dX4_film_116 hl (k := 5) rfl (nI_1 k) (by decide) rfl (fun ls hl => ?_)
                refine lv_goto (tgt := 59) hx hb dX4_film_119 (by decide) ?_
                exact ih59 (k + 1) (pp + 1) (va_up jk 2 (vp_updL (jk 2) pp r109)) (by first | assumption | omega) (by first | rfl | omega | (rw [cnt_t (by assumption)]; omega) | (rw [cnt_f (by assumption)]; omega)) (by omega) _ _ ls hP hD hS (lv_sub hl [2, 3, 4, 5, 1, 0] rfl)
              · skip
                refine lv_if_eq (tgt := 116) hx hb dX4_film_89 (by decide) (fun _ => ?_) (fun c9 => absurd (by decide) c9)
                refine lv_iinc (v := nI (k + 1)) (lv' := [(7, .int (nI (k + 1))), (0, .ref (h 0)), (1, .int (nI a1)), (2, .int (nI 2)), (4, .int (nI (cnt (sdb (wn.2 7) (wn.2 8) (wn.2 4 a1)) nl))), (6, .int (nI pp))]) hx hb dX4_film_116 hl (k := 5) rfl (nI_1 k) (by decide) rfl (fun ls hl => ?_)
                refine lv_goto (tgt := 59) hx hb dX4_film_119 (by decide) ?_
                exact ih59 (k + 1) pp jk (by first | assumption | omega) (by first | rfl | omega | (rw [cnt_t (by assumption)]; omega) | (rw [cnt_f (by assumption)]; omega)) (by omega) _ _ ls hP hD hS (lv_sub hl [1, 2, 3, 4, 5, 0] rfl)
        exact LP59 (nl - 0 + 1) 0 ji40 jj (by first | assumption | omega) (by first | rfl | omega | (rw [cnt_t (by assumption)]; omega) | (rw [cnt_f (by assumption)]; omega)) (Nat.lt_succ_self _) _ _ ls hP hD hS (lv_sub hl [4, 5, 6, 3, 1, 0] rfl)
      · skip
        refine lv_iload_n hx hb dX4_film_53 rfl (lv_at hl 5 rfl) ?_
        refine lv_istore (lv' := [(6, .int (nI ji40)), (5, .int (0 : Int32)), (4, .int (nI (cnt (sdb (wn.2 7) (wn.2 8) ((wn.2 4) a1)) nl))), (0, .ref (h 0)), (1, .int (nI a1)), (2, .int (nI 3)), (3, .int (nI ji40))]) hx hb dX4_film_54 hl (by decide) rfl (fun ls hl => ?_)
        refine lv_iconst (v := nI 0) hx hb dX4_film_56 (by decide) ?_
        refine lv_istore (lv' := [(7, .int (nI 0)), (6, .int (nI ji40)), (5, .int (0 : Int32)), (4, .int (nI (cnt (sdb (wn.2 7) (wn.2 8) ((wn.2 4) a1)) nl))), (0, .ref (h 0)), (1, .int (nI a1)), (2, .int (nI 3)), (3, .int (nI ji40))]) hx hb dX4_film_57 hl (by decide) rfl (fun ls hl => ?_)
        have LP59 : ∀ (n59m : Nat), ∀ (k : Nat) (pp : Nat) (jk : Nat → Nat → Int64) (hk : k ≤ nl) (hp : pp = ji40 + cnt (sdb (wn.2 7) (wn.2 8) (wn.2 4 a1)) k), (nl - k < n59m) → ∀ (H : Heap) (locs : List Loc) (ls : Array Slot), PP G (xw G h x wn wa w0 w1 rd wr z jk lt) H → va_D A (xw G h x wn wa w0 w1 rd wr z jk lt) → va_S A s.heap H locs → lv_has ls 8 [(0, .ref (h 0)), (1, .int (nI a1)), (2, .int (nI 3)), (4, .int (nI (cnt (sdb (wn.2 7) (wn.2 8) (wn.2 4 a1)) nl))), (6, .int (nI pp)), (7, .int (nI k))] → W p l e (headSpec wsX4_film ({ frames := 3, cells := 0, slots := 0, locals := 67 })).room s m ([.ref (h 0), .int (nI a1), .int (nI 3), .int (nI ji40)] : List Value).toArray below meth c H locs 0 0 (MQ below (va_Qi (fun (r : Int32) (v : oS × oS × oS × oS × oS × oS × oS × oS × (Nat → Nat → Int64) × Int64) => XQ rd z v) (fun v t => PP G (xw G h v.1 v.2.1 v.2.2.1 v.2.2.2.1 v.2.2.2.2.1 v.2.2.2.2.2.1 v.2.2.2.2.2.2.1 v.2.2.2.2.2.2.2.1 v.2.2.2.2.2.2.2.2.1 v.2.2.2.2.2.2.2.2.2) t.heap) A) ([.ref (h 0), .int (nI a1), .int (nI 3), .int (nI ji40)] : List Value).toArray s 0 0 A) (F0 m 59 ls []) := by
          intro n59m
          induction n59m with
          | zero => intro k pp jk hk hp hmu H locs ls hP hD hS hl; exact absurd hmu (Nat.not_lt_zero _)
          | succ n59m ih59 =>
            intro k pp jk hk hp hmu H locs ls hP hD hS hl
            refine lv_iload hx hb dX4_film_59 (lv_at hl 5 rfl) ?_
            refine lv_aload_n hx hb dX4_film_61 rfl (lv_at hl 0 rfl) ?_
            refine va_get (D := gD G) (ci := 4) (v := .ref (h 10)) (C := RX4) (T := TX4) (N := 9) hx hb hts hiX4 hown hK hP 0 rfl rfl 0 (by decide) k10 (fun _ h9 => h9) rfl dX4_film_62 ?_
            refine va_getN (D := gD G) (ci := 3) (v := .int (wn.1 5)) (C := RX3) (T := TX3) (N := 9) hx hb hts hiX3 hown hK hP 3 rfl rfl 5 (by decide) k85 (fun _ h9 => h9) rfl dX4_film_65 ?_
            refine topE hnl ?_
            refine lv_icmp_ge (tgt := 122) hx hb dX4_film_68 (by decide) (fun c68 => ?_) (fun c68 => ?_)
            · skip
              have n68 : nl ≤ k := (nI_leI (a := nl) (b := k) (by omega) (by omega)).mp c68
              refine lv_iload hx hb dX4_film_122 (lv_at hl 3 rfl) ?_
              exact W.iret (v := nI (cnt (sdb (wn.2 7) (wn.2 8) (wn.2 4 a1)) nl)) hx hb hr (fun t ht hW => ⟨⟨nI (cnt (sdb (wn.2 7) (wn.2 8) (wn.2 4 a1)) nl), (x, wn, wa, w0, w1, rd, wr, z, jk, lt), rfl, ⟨_, _, _, _, _, _, _, _, _, _, rfl, ⟨nv, nl, hnv, by omega, hnl, by omega⟩, ⟨nva, nla, hnva, by omega, hnla, by omega⟩, ⟨nv0, nl0, hnv0, by omega, hnl0, by omega⟩, ⟨nv1, nl1, hnv1, by omega, hnl1, by omega⟩, rfl, rfl⟩, show PP G (xw G h x wn wa w0 w1 rd wr z jk lt) t.heap by rw [ht]; exact hP⟩, hS.F ht⟩) hS.2.2 dX4_film_124
            · skip
              have n68 : ¬ (nl ≤ k) := fun q9 => c68 ((nI_leI (a := nl) (b := k) (by omega) (by omega)).mpr q9)
              refine lv_aload_n hx hb dX4_film_71 rfl (lv_at hl 0 rfl) ?_
              refine va_get (D := gD G) (ci := 4) (v := .ref (h 10)) (C := RX4) (T := TX4) (N := 9) hx hb hts hiX4 hown hK hP 0 rfl rfl 0 (by decide) k10 (fun _ h9 => h9) rfl dX4_film_72 ?_
              refine lv_iload hx hb dX4_film_75 (lv_at hl 5 rfl) ?_
              refine lv_aload_n hx hb dX4_film_77 rfl (lv_at hl 0 rfl) ?_
              refine va_get (D := gD G) (ci := 4) (v := .ref (h 10)) (C := RX4) (T := TX4) (N := 9) hx hb hts hiX4 hown hK hP 0 rfl rfl 0 (by decide) k10 (fun _ h9 => h9) rfl dX4_film_78 ?_
              refine va_getN (D := gD G) (ci := 3) (v := .ref (h 14)) (C := RX3) (T := TX3) (N := 9) hx hb hts hiX3 hown hK hP 3 rfl rfl 4 (by decide) k115 (fun _ h9 => h9) rfl dX4_film_81 ?_
              refine lv_iload_n hx hb dX4_film_84 rfl (lv_at hl 1 rfl) ?_
              refine ialdN (f := wn.2 4) (n := 24) (k := a1) hx hb hK hP 7 rfl rfl (by omega) dX4_film_85 ?_
              refine cRi (w := wv G (fun k => h (10 + k)) wn) (As := [.int (nI k), .int ((wn.2 4) a1)]) (rest := []) ⟨hx, hb, hml, hown, hts⟩ (mt_X3_stands l G (fun k => h (10 + k)) wn k ((wn.2 4) a1) (by first | assumption | omega)) (cwV 2 hts gX4_film_X3_stands rfl rfl rfl (by decide +kernel) ⟨Nat.le_of_ble_eq_true rfl, Nat.le_of_ble_eq_true rfl⟩) hK hN (hP.sub [3, 4, 5, 6, 7, 8, 9, 10] rfl) 0 3 rfl rfl rfl hl.1 rfl (Nat.le_of_ble_eq_true rfl) ⟨Nat.zero_le _, Nat.zero_le _⟩ dX4_film_86 (fun r86 hw86 => ?_)
              rcases hw86 with ⟨rfl, hy86⟩ | ⟨rfl, hn86⟩
              · skip
                refine lv_if_eq (tgt := 116) hx hb dX4_film_89 (by decide) (fun c9 => absurd c9 (by decide)) (fun _ => ?_)
                refine lv_aload_n hx hb dX4_film_92 rfl (lv_at hl 0 rfl) ?_
                refine va_get (D := gD G) (ci := 4) (v := .ref (h 70)) (C := RX4) (T := TX4) (N := 9) hx hb hts hiX4 hown hK hP 0 rfl rfl 5 (by decide) k37 (fun _ h9 => h9) rfl dX4_film_93 ?_
                refine va_getN (D := gD G) (ci := 2) (v := .ref (h 71)) (C := RX2) (T := TX2) (N := 2) hx hb hts hiX2 hown hK hP 47 rfl rfl 0 (by decide) k229 (fun _ h9 => h9) rfl dX4_film_96 ?_
                refine lv_iload_n hx hb dX4_film_99 rfl (lv_at hl 2 rfl) ?_
                refine aaldJ (f := fun i => some (h (73 + i))) (n := 4) (k := 3) (b := h 76) hx hb hK hP 48 rfl rfl (by decide) rfl dX4_film_100 ?_
                refine lv_iload hx hb dX4_film_101 (lv_at hl 4 rfl) ?_
                refine lv_aload_n hx hb dX4_film_103 rfl (lv_at hl 0 rfl) ?_
                refine va_get (D := gD G) (ci := 4) (v := .ref (h 10)) (C := RX4) (T := TX4) (N := 9) hx hb hts hiX4 hown hK hP 0 rfl rfl 0 (by decide) k10 (fun _ h9 => h9) rfl dX4_film_104 ?_
                refine lv_iload hx hb dX4_film_107 (lv_at hl 5 rfl) ?_
                refine cRl (w := wv G (fun k => h (10 + k)) wn) (As := [.int (nI k)]) (rest := [.int (nI pp), .ref (h 76)]) ⟨hx, hb, hml, hown, hts⟩ (mt_X3_pictureOf l G (fun k => h (10 + k)) wn nv k (hnv) (by first | assumption | omega) (by first | assumption | omega)) (cwV 1 hts gX4_film_X3_pictureOf rfl rfl rfl (by decide +kernel) ⟨Nat.le_of_ble_eq_true rfl, Nat.le_of_ble_eq_true rfl⟩) hK hN (hP.sub [3, 4, 5, 6, 7, 8, 9, 10] rfl) 0 3 rfl rfl rfl hl.1 rfl (Nat.le_of_ble_eq_true rfl) ⟨Nat.zero_le _, Nat.zero_le _⟩ dX4_film_109 (fun r109 hw109 => ?_)
                refine lastN (f := jk 3) (n := 40) (k := pp) hx hb hK hP hD hS 53 rfl rfl (by omega) dX4_film_112 (fun H locs hP hD hS => ?_)
                have hP : PP G (xw G h x wn wa w0 w1 rd wr z (va_up jk 3 (vp_updL (jk 3) pp r109)) lt) H := hP
                have hD : va_D A (xw G h x wn wa w0 w1 rd wr z (va_up jk 3 (vp_updL (jk 3) pp r109)) lt) := hD
                refine lv_iinc (v := nI (pp + 1)) (lv' := [(6, .int (nI (pp + 1))), (0, .ref (h 0)), (1, .int (nI a1)), (2, .int (nI 3)), (4, .int (nI (cnt (sdb (wn.2 7) (wn.2 8) (wn.2 4 a1)) nl))), (7, .int (nI k))]) hx hb dX4_film_113 hl (k := 4) rfl (nI_1 pp) (by decide) rfl (fun ls hl => ?_)
                refine lv_iinc (v := nI (k + 1)) (lv' := [(7, .int (nI (k + 1))), (6, .int (nI (pp + 1))), (0, .ref (h 0)), (1, .int (nI a1)), (2, .int (nI 3)), (4, .int (nI (cnt (sdb (wn.2 7) (wn.2 8) (wn.2 4 a1)) nl)))]) hx hb dX4_film_116 hl (k := 5) rfl (nI_1 k) (by decide) rfl (fun ls hl => ?_)
                refine lv_goto (tgt := 59) hx hb dX4_film_119 (by decide) ?_
                exact ih59 (k + 1) (pp + 1) (va_up jk 3 (vp_updL (jk 3) pp r109)) (by first | assumption | omega) (by first | rfl | omega | (rw [cnt_t (by assumption)]; omega) | (rw [cnt_f (by assumption)]; omega)) (by omega) _ _ ls hP hD hS (lv_sub hl [2, 3, 4, 5, 1, 0] rfl)
              · skip
                refine lv_if_eq (tgt := 116) hx hb dX4_film_89 (by decide) (fun _ => ?_) (fun c9 => absurd (by decide) c9)
                refine lv_iinc (v := nI (k + 1)) (lv' := [(7, .int (nI (k + 1))), (0, .ref (h 0)), (1, .int (nI a1)), (2, .int (nI 3)), (4, .int (nI (cnt (sdb (wn.2 7) (wn.2 8) (wn.2 4 a1)) nl))), (6, .int (nI pp))]) hx hb dX4_film_116 hl (k := 5) rfl (nI_1 k) (by decide) rfl (fun ls hl => ?_)
                refine lv_goto (tgt := 59) hx hb dX4_film_119 (by decide) ?_
                exact ih59 (k + 1) pp jk (by first | assumption | omega) (by first | rfl | omega | (rw [cnt_t (by assumption)]; omega) | (rw [cnt_f (by assumption)]; omega)) (by omega) _ _ ls hP hD hS (lv_sub hl [1, 2, 3, 4, 5, 0] rfl)
        exact LP59 (nl - 0 + 1) 0 ji40 jj (by first | assumption | omega) (by first | rfl | omega | (rw [cnt_t (by assumption)]; omega) | (rw [cnt_f (by assumption)]; omega)) (Nat.lt_succ_self _) _ _ ls hP hD hS (lv_sub hl [4, 5, 6, 3, 1, 0] rfl)
    · skip
      refine lv_istore (lv' := [(5, .int (-1000000001 : Int32)), (4, .int (nI (cnt (sdb (wn.2 7) (wn.2 8) ((wn.2 4) a1)) nl))), (0, .ref (h 0)), (1, .int (nI a1)), (2, .int s1), (3, .int i1)]) hx hb dX4_film_43 hl (by decide) rfl (fun ls hl => ?_)
      refine lv_iload hx hb dX4_film_45 (lv_at hl 0 rfl) ?_
      refine lv_if_eq (tgt := 53) hx hb dX4_film_47 (by decide) (fun c9 => absurd c9 (by decide)) (fun _ => ?_)
      refine lv_iload hx hb dX4_film_50 (lv_at hl 0 rfl) ?_
      exact W.iret (v := (-1000000001 : Int32)) hx hb hr (fun t ht hW => ⟨⟨(-1000000001 : Int32), (x, wn, wa, w0, w1, rd, wr, z, jj, lt), rfl, ⟨_, _, _, _, _, _, _, _, _, _, rfl, ⟨nv, nl, hnv, by omega, hnl, by omega⟩, ⟨nva, nla, hnva, by omega, hnla, by omega⟩, ⟨nv0, nl0, hnv0, by omega, hnl0, by omega⟩, ⟨nv1, nl1, hnv1, by omega, hnl1, by omega⟩, rfl, rfl⟩, show PP G (xw G h x wn wa w0 w1 rd wr z jj lt) t.heap by rw [ht]; exact hP⟩, hS.F ht⟩) hS.2.2 dX4_film_52
    · skip
      refine lv_istore (lv' := [(5, .int (-1000000011 : Int32)), (4, .int (nI (cnt (sdb (wn.2 7) (wn.2 8) ((wn.2 4) a1)) nl))), (0, .ref (h 0)), (1, .int (nI a1)), (2, .int s1), (3, .int i1)]) hx hb dX4_film_43 hl (by decide) rfl (fun ls hl => ?_)
      refine lv_iload hx hb dX4_film_45 (lv_at hl 0 rfl) ?_
      refine lv_if_eq (tgt := 53) hx hb dX4_film_47 (by decide) (fun c9 => absurd c9 (by decide)) (fun _ => ?_)
      refine lv_iload hx hb dX4_film_50 (lv_at hl 0 rfl) ?_
      exact W.iret (v := (-1000000011 : Int32)) hx hb hr (fun t ht hW => ⟨⟨(-1000000011 : Int32), (x, wn, wa, w0, w1, rd, wr, z, jj, lt), rfl, ⟨_, _, _, _, _, _, _, _, _, _, rfl, ⟨nv, nl, hnv, by omega, hnl, by omega⟩, ⟨nva, nla, hnva, by omega, hnla, by omega⟩, ⟨nv0, nl0, hnv0, by omega, hnl0, by omega⟩, ⟨nv1, nl1, hnv1, by omega, hnl1, by omega⟩, rfl, rfl⟩, show PP G (xw G h x wn wa w0 w1 rd wr z jj lt) t.heap by rw [ht]; exact hP⟩, hS.F ht⟩) hS.2.2 dX4_film_52
    · skip
      refine lv_istore (lv' := [(5, .int (-1000000012 : Int32)), (4, .int (nI (cnt (sdb (wn.2 7) (wn.2 8) ((wn.2 4) a1)) nl))), (0, .ref (h 0)), (1, .int (nI a1)), (2, .int s1), (3, .int i1)]) hx hb dX4_film_43 hl (by decide) rfl (fun ls hl => ?_)
      refine lv_iload hx hb dX4_film_45 (lv_at hl 0 rfl) ?_
      refine lv_if_eq (tgt := 53) hx hb dX4_film_47 (by decide) (fun c9 => absurd c9 (by decide)) (fun _ => ?_)
      refine lv_iload hx hb dX4_film_50 (lv_at hl 0 rfl) ?_
      exact W.iret (v := (-1000000012 : Int32)) hx hb hr (fun t ht hW => ⟨⟨(-1000000012 : Int32), (x, wn, wa, w0, w1, rd, wr, z, jj, lt), rfl, ⟨_, _, _, _, _, _, _, _, _, _, rfl, ⟨nv, nl, hnv, by omega, hnl, by omega⟩, ⟨nva, nla, hnva, by omega, hnla, by omega⟩, ⟨nv0, nl0, hnv0, by omega, hnl0, by omega⟩, ⟨nv1, nl1, hnv1, by omega, hnl1, by omega⟩, rfl, rfl⟩, show PP G (xw G h x wn wa w0 w1 rd wr z jj lt) t.heap by rw [ht]; exact hP⟩, hS.F ht⟩) hS.2.2 dX4_film_52
  · skip
    refine lv_if_ne (tgt := 14) hx hb dX4_film_8 (by decide) (fun c9 => absurd (by decide) c9) (fun _ => ?_)
    refine lv_ldc (v := (-1000000001 : Int32)) hx hb hown (hts (.constant RX4 110 (-1000000001)) (List.mem_of_getElem? (i := 2) rfl)) dX4_film_11 ?_
    exact W.iret (v := (-1000000001 : Int32)) hx hb hr (fun t ht hW => ⟨⟨(-1000000001 : Int32), (x, wn, wa, w0, w1, rd, wr, z, jj, lt), rfl, ⟨_, _, _, _, _, _, _, _, _, _, rfl, ⟨nv, nl, hnv, by omega, hnl, by omega⟩, ⟨nva, nla, hnva, by omega, hnla, by omega⟩, ⟨nv0, nl0, hnv0, by omega, hnl0, by omega⟩, ⟨nv1, nl1, hnv1, by omega, hnl1, by omega⟩, rfl, rfl⟩, show PP G (xw G h x wn wa w0 w1 rd wr z jj lt) t.heap by rw [ht]; exact hP⟩, hS.F ht⟩) hS.2.2 dX4_film_13
set_option maxHeartbeats 1000000 in
set_option maxRecDepth 100000 in
theorem mt_X4_keep (l : Launch) (G : gG) (h : Nat → Nat) (sz : Nat) (x : oS) (wn : oS) (wa : oS) (w0 : oS) (w1 : oS) (rd : oS) (wr : oS) (z : oS) (jj : Nat → Nat → Int64) (lt : Int64) (nv : Nat) (nl : Nat) (nva : Nat) (nla : Nat) (nv0 : Nat) (nl0 : Nat) (nv1 : Nat) (nl1 : Nat) (len : Nat) (i : Int32) (hnv : wn.1 0 = nI nv) (hnl : wn.1 5 = nI nl) (hnva : wa.1 0 = nI nva) (hnla : wa.1 5 = nI nla) (hnv0 : w0.1 0 = nI nv0) (hnl0 : w0.1 5 = nI nl0) (hnv1 : w1.1 0 = nI nv1) (hnl1 : w1.1 5 = nI nl1) (hlen : rd.1 1 = nI len) (hnv24 : nv ≤ 24) (hnl120 : nl ≤ 120) (hva24 : nva ≤ 24) (hla120 : nla ≤ 120) (hv024 : nv0 ≤ 24) (hl0120 : nl0 ≤ 120) (hv124 : nv1 ≤ 24) (hl1120 : nl1 ≤ 120) (hl240 : len ≤ 240) (hsz : ∀ j, j < 4 → z.2 1 j = -1 ∨ ∃ q, q ≤ 40 ∧ z.2 1 j = nI q) : Met l yX4_keep wsX4_keep ({ frames := 2, cells := 0, slots := 0, locals := 47 }) (preW G (xw G h x wn wa w0 w1 rd wr z jj lt) sz [.ref (h 0), .int i]) (va_Qi (fun (r : Int32) (v : oS × oS × oS × oS × oS × oS × oS × oS × (Nat → Nat → Int64) × Int64) => XQ rd z v) (fun v t => PP G (xw G h v.1 v.2.1 v.2.2.1 v.2.2.2.1 v.2.2.2.2.1 v.2.2.2.2.2.1 v.2.2.2.2.2.2.1 v.2.2.2.2.2.2.2.1 v.2.2.2.2.2.2.2.2.1 v.2.2.2.2.2.2.2.2.2) t.heap) (va_A (xw G h x wn wa w0 w1 rd wr z jj lt) sz)) 0 0 (va_A (xw G h x wn wa w0 w1 rd wr z jj lt) sz) := by
  refine Met.ofW (cc := cX4_keep) (maxL := 2) (ret := (some .int)) (by decide) rfl ?_
  intro p e s m args below meth c s₁ B hml hv
  obtain ⟨ha, hsz, hP, hK, hN, hD0⟩ := hv
  subst ha
  have hx := B.exec
  have hb := B.bytes
  have hr := B.returns
  have hts := atoms_spec (ws := wsX4_keep) B.pre
  have hown : s.vm.findClass RX4 = some m.cls := findClass_of_methodNamed B.named
  have hlocks := B.notSynchronized
  subst hsz
  have hD := hD0.self (sz := s.heap.size)
  generalize hAe : va_A (xw G h x wn wa w0 w1 rd wr z jj lt) s.heap.size = A at hD ⊢
  have hA : ∀ q : Nat, s.heap.size ≤ q → A q := fun q h => by rw [← hAe]; exact Or.inr h
  clear hAe hD0
  have hS : va_S A s.heap s.heap [] := va_S.rf
  have hiX4 : ∀ w ∈ wsX40, w ∈ wsX4_keep := by decide +kernel
  have k48 := hts (.fieldLink RX4 48 "WovenHistory" "opened" "Z") (List.mem_of_getElem? (i := 2) rfl)
  have k19 := hts (.fieldLink RX4 19 "WovenHistory" "images" "[LWovenHistory$Weave;") (List.mem_of_getElem? (i := 4) rfl)
  have k10 := hts (.fieldLink RX4 10 "WovenHistory" "now" "LWovenHistory$Weave;") (List.mem_of_getElem? (i := 5) rfl)
  have k23 := hts (.fieldLink RX4 23 "WovenHistory" "kept" "[Z") (List.mem_of_getElem? (i := 6) rfl)
  have hiX3 : ∀ w ∈ wsX30, w ∈ wsX4_keep := by decide +kernel
  have k82 : (Cond.fieldLinkNest "WovenHistory" 82 "WovenHistory$Weave" "versions" "I" "WovenHistory").before _ s = true := va_Nw.use (A := ([.ref (h 0), .int i] : List Value).toArray) rfl (hN.1 ("WovenHistory", 82, "WovenHistory$Weave", "versions", "I") (List.mem_of_getElem? (i := 12) rfl))
  have hl := lv_entry ([.ref (h 0), .int i]) (n := 2) (Nat.le_of_ble_eq_true rfl)
  rw [lg_entry_eq]
  generalize (lg_sl ([.ref (h 0), .int i]) ++ List.replicate (2 - (lg_sl ([.ref (h 0), .int i])).length) Slot.unset).toArray = ls at hl ⊢
  have hl : lv_has ls 2 [(0, .ref (h 0)), (1, .int i)] := hl
  refine lv_iload_n hx hb dX4_keep_0 rfl (lv_at hl 1 rfl) ?_
  refine lv_if_lt (tgt := 9) hx hb dX4_keep_1 (by decide) (fun c1 => ?_) (fun c1 => ?_)
  · skip
    refine lv_ldc (v := (-1000000001 : Int32)) hx hb hown (hts (.constant RX4 110 (-1000000001)) (List.mem_of_getElem? (i := 1) rfl)) dX4_keep_9 ?_
    exact W.iret (v := (-1000000001 : Int32)) hx hb hr (fun t ht hW => ⟨⟨(-1000000001 : Int32), (x, wn, wa, w0, w1, rd, wr, z, jj, lt), rfl, ⟨_, _, _, _, _, _, _, _, _, _, rfl, ⟨nv, nl, hnv, by omega, hnl, by omega⟩, ⟨nva, nla, hnva, by omega, hnla, by omega⟩, ⟨nv0, nl0, hnv0, by omega, hnl0, by omega⟩, ⟨nv1, nl1, hnv1, by omega, hnl1, by omega⟩, rfl, rfl⟩, show PP G (xw G h x wn wa w0 w1 rd wr z jj lt) t.heap by rw [ht]; exact hP⟩, hS.F ht⟩) hS.2.2 dX4_keep_11
  · skip
    refine lv_iload_n hx hb dX4_keep_4 rfl (lv_at hl 1 rfl) ?_
    refine lv_iconst (v := nI 2) hx hb dX4_keep_5 (by decide) ?_
    refine lv_icmp_lt (tgt := 12) hx hb dX4_keep_6 (by decide) (fun c6 => ?_) (fun c6 => ?_)
    · skip
      obtain ⟨i2, hi2, rfl⟩ := lt_y (n := 2) (by omega) c1 c6
      refine lv_aload_n hx hb dX4_keep_12 rfl (lv_at hl 0 rfl) ?_
      refine va_get (D := gD G) (ci := 4) (v := .int (x.1 7)) (C := RX4) (T := TX4) (N := 9) hx hb hts hiX4 hown hK hP 0 rfl rfl 7 (by decide) k48 (fun _ h9 => h9) rfl dX4_keep_13 ?_
      refine lv_if_eq (tgt := 22) hx hb dX4_keep_16 (by decide) (fun c16 => ?_) (fun c16 => ?_)
      · skip
        rcases (show i2 = 0 ∨ i2 = 1 by omega) with rfl | rfl
        · skip
          refine lv_aload_n hx hb dX4_keep_22 rfl (lv_at hl 0 rfl) ?_
          refine va_get (D := gD G) (ci := 4) (v := .ref (h 2)) (C := RX4) (T := TX4) (N := 9) hx hb hts hiX4 hown hK hP 0 rfl rfl 2 (by decide) k19 (fun _ h9 => h9) rfl dX4_keep_23 ?_
          refine lv_iload_n hx hb dX4_keep_26 rfl (lv_at hl 1 rfl) ?_
          refine aaldW (f := fun i => some (h (30 + 10 * i))) (n := 2) (k := 0) (b := h 30) hx hb hK hP 1 rfl rfl (by decide) rfl dX4_keep_27 ?_
          refine lv_aload_n hx hb dX4_keep_28 rfl (lv_at hl 0 rfl) ?_
          refine va_get (D := gD G) (ci := 4) (v := .ref (h 10)) (C := RX4) (T := TX4) (N := 9) hx hb hts hiX4 hown hK hP 0 rfl rfl 0 (by decide) k10 (fun _ h9 => h9) rfl dX4_keep_29 ?_
          refine cWv (As := [.ref (h 10)]) (rest := []) (S := oS × oS) (wa := xw G h x wn wa w0 w1 rd wr z jj lt) (wc := wb G (fun k => h (30 + k)) (fun k => h (10 + k)) w0 wn) (w1 := fun v => wb G (fun k => h (30 + k)) (fun k => h (10 + k)) v.1 v.2) (wa' := fun v => xw G h x v.2 wa v.1 w1 rd wr z jj lt) ⟨hx, hb, hml, hown, hts⟩ (mt_X3_become l G (fun k => h (30 + k)) _ w0 wn (fun k => h (10 + k))) (cwV 1 hts gX4_keep_X3_become rfl rfl rfl (by decide +kernel) ⟨Nat.le_of_ble_eq_true rfl, Nat.le_of_ble_eq_true rfl⟩) hK hN hP hD hS hA [19, 20, 21, 22, 23, 24, 25, 26, 3, 4, 5, 6, 7, 8, 9, 10] rfl (by decide) rfl (fun _ => rfl) (fun _ => rfl) (fun _ => rfl) 0 3 rfl rfl rfl hl.1 rfl (Nat.le_of_ble_eq_true rfl) ⟨Nat.zero_le _, Nat.zero_le _⟩ dX4_keep_32 (fun u32 H locs hw32 hP hD hS => ?_)
          obtain ⟨w32, rfl, e32a, e32b⟩ := hw32
          have hP : PP G (xw G h x wn wa w32 w1 rd wr z jj lt) H := hP
          have hD : va_D A (xw G h x wn wa w32 w1 rd wr z jj lt) := hD
          refine lv_aload_n hx hb dX4_keep_35 rfl (lv_at hl 0 rfl) ?_
          refine va_get (D := gD G) (ci := 4) (v := .ref (h 3)) (C := RX4) (T := TX4) (N := 9) hx hb hts hiX4 hown hK hP 0 rfl rfl 3 (by decide) k23 (fun _ h9 => h9) rfl dX4_keep_36 ?_
          refine lv_iload_n hx hb dX4_keep_39 rfl (lv_at hl 1 rfl) ?_
          refine lv_iconst (v := nI 1) hx hb dX4_keep_40 (by decide) ?_
          refine zastN (f := x.2 3) (n := 2) (k := 0) hx hb hK hP hD hS 2 rfl rfl (by omega) (Or.inr rfl) dX4_keep_41 (fun H locs hP hD hS => ?_)
          have hP : PP G (xw G h (oA x 3 (upd (x.2 3) 0 (nI 1))) wn wa w32 w1 rd wr z jj lt) H := hP
          have hD : va_D A (xw G h (oA x 3 (upd (x.2 3) 0 (nI 1))) wn wa w32 w1 rd wr z jj lt) := hD
          refine lv_aload_n hx hb dX4_keep_42 rfl (lv_at hl 0 rfl) ?_
          refine va_get (D := gD G) (ci := 4) (v := .ref (h 10)) (C := RX4) (T := TX4) (N := 9) hx hb hts hiX4 hown hK hP 0 rfl rfl 0 (by decide) k10 (fun _ h9 => h9) rfl dX4_keep_43 ?_
          refine va_getN (D := gD G) (ci := 3) (v := .int (wn.1 0)) (C := RX3) (T := TX3) (N := 9) hx hb hts hiX3 hown hK hP 3 rfl rfl 0 (by decide) k82 (fun _ h9 => h9) rfl dX4_keep_46 ?_
          refine topE hnv ?_
          exact W.iret (v := nI nv) hx hb hr (fun t ht hW => ⟨⟨nI nv, (oA x 3 (upd (x.2 3) 0 (nI 1)), wn, wa, w32, w1, rd, wr, z, jj, lt), rfl, ⟨_, _, _, _, _, _, _, _, _, _, rfl, ⟨nv, nl, hnv, by omega, hnl, by omega⟩, ⟨nva, nla, hnva, by omega, hnla, by omega⟩, ⟨nv, nl, e32a.trans (hnv), by omega, e32b.trans (hnl), by omega⟩, ⟨nv1, nl1, hnv1, by omega, hnl1, by omega⟩, rfl, rfl⟩, show PP G (xw G h (oA x 3 (upd (x.2 3) 0 (nI 1))) wn wa w32 w1 rd wr z jj lt) t.heap by rw [ht]; exact hP⟩, hS.F ht⟩) hS.2.2 dX4_keep_49
        · skip
          refine lv_aload_n hx hb dX4_keep_22 rfl (lv_at hl 0 rfl) ?_
          refine va_get (D := gD G) (ci := 4) (v := .ref (h 2)) (C := RX4) (T := TX4) (N := 9) hx hb hts hiX4 hown hK hP 0 rfl rfl 2 (by decide) k19 (fun _ h9 => h9) rfl dX4_keep_23 ?_
          refine lv_iload_n hx hb dX4_keep_26 rfl (lv_at hl 1 rfl) ?_
          refine aaldW (f := fun i => some (h (30 + 10 * i))) (n := 2) (k := 1) (b := h 40) hx hb hK hP 1 rfl rfl (by decide) rfl dX4_keep_27 ?_
          refine lv_aload_n hx hb dX4_keep_28 rfl (lv_at hl 0 rfl) ?_
          refine va_get (D := gD G) (ci := 4) (v := .ref (h 10)) (C := RX4) (T := TX4) (N := 9) hx hb hts hiX4 hown hK hP 0 rfl rfl 0 (by decide) k10 (fun _ h9 => h9) rfl dX4_keep_29 ?_
          refine cWv (As := [.ref (h 10)]) (rest := []) (S := oS × oS) (wa := xw G h x wn wa w0 w1 rd wr z jj lt) (wc := wb G (fun k => h (40 + k)) (fun k => h (10 + k)) w1 wn) (w1 := fun v => wb G (fun k => h (40 + k)) (fun k => h (10 + k)) v.1 v.2) (wa' := fun v => xw G h x v.2 wa w0 v.1 rd wr z jj lt) ⟨hx, hb, hml, hown, hts⟩ (mt_X3_become l G (fun k => h (40 + k)) _ w1 wn (fun k => h (10 + k))) (cwV 1 hts gX4_keep_X3_become rfl rfl rfl (by decide +kernel) ⟨Nat.le_of_ble_eq_true rfl, Nat.le_of_ble_eq_true rfl⟩) hK hN hP hD hS hA [27, 28, 29, 30, 31, 32, 33, 34, 3, 4, 5, 6, 7, 8, 9, 10] rfl (by decide) rfl (fun _ => rfl) (fun _ => rfl) (fun _ => rfl) 0 3 rfl rfl rfl hl.1 rfl (Nat.le_of_ble_eq_true rfl) ⟨Nat.zero_le _, Nat.zero_le _⟩ dX4_keep_32 (fun u32 H locs hw32 hP hD hS => ?_)
          obtain ⟨w32, rfl, e32a, e32b⟩ := hw32
          have hP : PP G (xw G h x wn wa w0 w32 rd wr z jj lt) H := hP
          have hD : va_D A (xw G h x wn wa w0 w32 rd wr z jj lt) := hD
          refine lv_aload_n hx hb dX4_keep_35 rfl (lv_at hl 0 rfl) ?_
          refine va_get (D := gD G) (ci := 4) (v := .ref (h 3)) (C := RX4) (T := TX4) (N := 9) hx hb hts hiX4 hown hK hP 0 rfl rfl 3 (by decide) k23 (fun _ h9 => h9) rfl dX4_keep_36 ?_
          refine lv_iload_n hx hb dX4_keep_39 rfl (lv_at hl 1 rfl) ?_
          refine lv_iconst (v := nI 1) hx hb dX4_keep_40 (by decide) ?_
          refine zastN (f := x.2 3) (n := 2) (k := 1) hx hb hK hP hD hS 2 rfl rfl (by omega) (Or.inr rfl) dX4_keep_41 (fun H locs hP hD hS => ?_)
          have hP : PP G (xw G h (oA x 3 (upd (x.2 3) 1 (nI 1))) wn wa w0 w32 rd wr z jj lt) H := hP
          have hD : va_D A (xw G h (oA x 3 (upd (x.2 3) 1 (nI 1))) wn wa w0 w32 rd wr z jj lt) := hD
          refine lv_aload_n hx hb dX4_keep_42 rfl (lv_at hl 0 rfl) ?_
          refine va_get (D := gD G) (ci := 4) (v := .ref (h 10)) (C := RX4) (T := TX4) (N := 9) hx hb hts hiX4 hown hK hP 0 rfl rfl 0 (by decide) k10 (fun _ h9 => h9) rfl dX4_keep_43 ?_
          refine va_getN (D := gD G) (ci := 3) (v := .int (wn.1 0)) (C := RX3) (T := TX3) (N := 9) hx hb hts hiX3 hown hK hP 3 rfl rfl 0 (by decide) k82 (fun _ h9 => h9) rfl dX4_keep_46 ?_
          refine topE hnv ?_
          exact W.iret (v := nI nv) hx hb hr (fun t ht hW => ⟨⟨nI nv, (oA x 3 (upd (x.2 3) 1 (nI 1)), wn, wa, w0, w32, rd, wr, z, jj, lt), rfl, ⟨_, _, _, _, _, _, _, _, _, _, rfl, ⟨nv, nl, hnv, by omega, hnl, by omega⟩, ⟨nva, nla, hnva, by omega, hnla, by omega⟩, ⟨nv0, nl0, hnv0, by omega, hnl0, by omega⟩, ⟨nv, nl, e32a.trans (hnv), by omega, e32b.trans (hnl), by omega⟩, rfl, rfl⟩, show PP G (xw G h (oA x 3 (upd (x.2 3) 1 (nI 1))) wn wa w0 w32 rd wr z jj lt) t.heap by rw [ht]; exact hP⟩, hS.F ht⟩) hS.2.2 dX4_keep_49
      · skip
        refine lv_ldc (v := (-1000000003 : Int32)) hx hb hown (hts (.constant RX4 148 (-1000000003)) (List.mem_of_getElem? (i := 3) rfl)) dX4_keep_19 ?_
        exact W.iret (v := (-1000000003 : Int32)) hx hb hr (fun t ht hW => ⟨⟨(-1000000003 : Int32), (x, wn, wa, w0, w1, rd, wr, z, jj, lt), rfl, ⟨_, _, _, _, _, _, _, _, _, _, rfl, ⟨nv, nl, hnv, by omega, hnl, by omega⟩, ⟨nva, nla, hnva, by omega, hnla, by omega⟩, ⟨nv0, nl0, hnv0, by omega, hnl0, by omega⟩, ⟨nv1, nl1, hnv1, by omega, hnl1, by omega⟩, rfl, rfl⟩, show PP G (xw G h x wn wa w0 w1 rd wr z jj lt) t.heap by rw [ht]; exact hP⟩, hS.F ht⟩) hS.2.2 dX4_keep_21
    · skip
      refine lv_ldc (v := (-1000000001 : Int32)) hx hb hown (hts (.constant RX4 110 (-1000000001)) (List.mem_of_getElem? (i := 1) rfl)) dX4_keep_9 ?_
      exact W.iret (v := (-1000000001 : Int32)) hx hb hr (fun t ht hW => ⟨⟨(-1000000001 : Int32), (x, wn, wa, w0, w1, rd, wr, z, jj, lt), rfl, ⟨_, _, _, _, _, _, _, _, _, _, rfl, ⟨nv, nl, hnv, by omega, hnl, by omega⟩, ⟨nva, nla, hnva, by omega, hnla, by omega⟩, ⟨nv0, nl0, hnv0, by omega, hnl0, by omega⟩, ⟨nv1, nl1, hnv1, by omega, hnl1, by omega⟩, rfl, rfl⟩, show PP G (xw G h x wn wa w0 w1 rd wr z jj lt) t.heap by rw [ht]; exact hP⟩, hS.F ht⟩) hS.2.2 dX4_keep_11
set_option maxHeartbeats 1000000 in
set_option maxRecDepth 100000 in
theorem mt_X4_goBack (l : Launch) (G : gG) (h : Nat → Nat) (sz : Nat) (x : oS) (wn : oS) (wa : oS) (w0 : oS) (w1 : oS) (rd : oS) (wr : oS) (z : oS) (jj : Nat → Nat → Int64) (lt : Int64) (nv : Nat) (nl : Nat) (nva : Nat) (nla : Nat) (nv0 : Nat) (nl0 : Nat) (nv1 : Nat) (nl1 : Nat) (len : Nat) (i : Int32) (hnv : wn.1 0 = nI nv) (hnl : wn.1 5 = nI nl) (hnva : wa.1 0 = nI nva) (hnla : wa.1 5 = nI nla) (hnv0 : w0.1 0 = nI nv0) (hnl0 : w0.1 5 = nI nl0) (hnv1 : w1.1 0 = nI nv1) (hnl1 : w1.1 5 = nI nl1) (hlen : rd.1 1 = nI len) (hnv24 : nv ≤ 24) (hnl120 : nl ≤ 120) (hva24 : nva ≤ 24) (hla120 : nla ≤ 120) (hv024 : nv0 ≤ 24) (hl0120 : nl0 ≤ 120) (hv124 : nv1 ≤ 24) (hl1120 : nl1 ≤ 120) (hl240 : len ≤ 240) (hsz : ∀ j, j < 4 → z.2 1 j = -1 ∨ ∃ q, q ≤ 40 ∧ z.2 1 j = nI q) : Met l yX4_goBack wsX4_goBack ({ frames := 2, cells := 0, slots := 0, locals := 47 }) (preW G (xw G h x wn wa w0 w1 rd wr z jj lt) sz [.ref (h 0), .int i]) (va_Qi (fun (r : Int32) (v : oS × oS × oS × oS × oS × oS × oS × oS × (Nat → Nat → Int64) × Int64) => XQ rd z v) (fun v t => PP G (xw G h v.1 v.2.1 v.2.2.1 v.2.2.2.1 v.2.2.2.2.1 v.2.2.2.2.2.1 v.2.2.2.2.2.2.1 v.2.2.2.2.2.2.2.1 v.2.2.2.2.2.2.2.2.1 v.2.2.2.2.2.2.2.2.2) t.heap) (va_A (xw G h x wn wa w0 w1 rd wr z jj lt) sz)) 0 0 (va_A (xw G h x wn wa w0 w1 rd wr z jj lt) sz) := by
  refine Met.ofW (cc := cX4_goBack) (maxL := 2) (ret := (some .int)) (by decide) rfl ?_
  intro p e s m args below meth c s₁ B hml hv
  obtain ⟨ha, hsz, hP, hK, hN, hD0⟩ := hv
  subst ha
  have hx := B.exec
  have hb := B.bytes
  have hr := B.returns
  have hts := atoms_spec (ws := wsX4_goBack) B.pre
  have hown : s.vm.findClass RX4 = some m.cls := findClass_of_methodNamed B.named
  have hlocks := B.notSynchronized
  subst hsz
  have hD := hD0.self (sz := s.heap.size)
  generalize hAe : va_A (xw G h x wn wa w0 w1 rd wr z jj lt) s.heap.size = A at hD ⊢
  have hA : ∀ q : Nat, s.heap.size ≤ q → A q := fun q h => by rw [← hAe]; exact Or.inr h
  clear hAe hD0
  have hS : va_S A s.heap s.heap [] := va_S.rf
  have hiX4 : ∀ w ∈ wsX40, w ∈ wsX4_goBack := by decide +kernel
  have k23 := hts (.fieldLink RX4 23 "WovenHistory" "kept" "[Z") (List.mem_of_getElem? (i := 2) rfl)
  have k10 := hts (.fieldLink RX4 10 "WovenHistory" "now" "LWovenHistory$Weave;") (List.mem_of_getElem? (i := 4) rfl)
  have k19 := hts (.fieldLink RX4 19 "WovenHistory" "images" "[LWovenHistory$Weave;") (List.mem_of_getElem? (i := 5) rfl)
  have k48 := hts (.fieldLink RX4 48 "WovenHistory" "opened" "Z") (List.mem_of_getElem? (i := 6) rfl)
  have hiX3 : ∀ w ∈ wsX30, w ∈ wsX4_goBack := by decide +kernel
  have k82 : (Cond.fieldLinkNest "WovenHistory" 82 "WovenHistory$Weave" "versions" "I" "WovenHistory").before _ s = true := va_Nw.use (A := ([.ref (h 0), .int i] : List Value).toArray) rfl (hN.1 ("WovenHistory", 82, "WovenHistory$Weave", "versions", "I") (List.mem_of_getElem? (i := 12) rfl))
  have hl := lv_entry ([.ref (h 0), .int i]) (n := 2) (Nat.le_of_ble_eq_true rfl)
  rw [lg_entry_eq]
  generalize (lg_sl ([.ref (h 0), .int i]) ++ List.replicate (2 - (lg_sl ([.ref (h 0), .int i])).length) Slot.unset).toArray = ls at hl ⊢
  have hl : lv_has ls 2 [(0, .ref (h 0)), (1, .int i)] := hl
  refine lv_iload_n hx hb dX4_goBack_0 rfl (lv_at hl 1 rfl) ?_
  refine lv_if_lt (tgt := 9) hx hb dX4_goBack_1 (by decide) (fun c1 => ?_) (fun c1 => ?_)
  · skip
    refine lv_ldc (v := (-1000000001 : Int32)) hx hb hown (hts (.constant RX4 110 (-1000000001)) (List.mem_of_getElem? (i := 1) rfl)) dX4_goBack_9 ?_
    exact W.iret (v := (-1000000001 : Int32)) hx hb hr (fun t ht hW => ⟨⟨(-1000000001 : Int32), (x, wn, wa, w0, w1, rd, wr, z, jj, lt), rfl, ⟨_, _, _, _, _, _, _, _, _, _, rfl, ⟨nv, nl, hnv, by omega, hnl, by omega⟩, ⟨nva, nla, hnva, by omega, hnla, by omega⟩, ⟨nv0, nl0, hnv0, by omega, hnl0, by omega⟩, ⟨nv1, nl1, hnv1, by omega, hnl1, by omega⟩, rfl, rfl⟩, show PP G (xw G h x wn wa w0 w1 rd wr z jj lt) t.heap by rw [ht]; exact hP⟩, hS.F ht⟩) hS.2.2 dX4_goBack_11
  · skip
    refine lv_iload_n hx hb dX4_goBack_4 rfl (lv_at hl 1 rfl) ?_
    refine lv_iconst (v := nI 2) hx hb dX4_goBack_5 (by decide) ?_
    refine lv_icmp_lt (tgt := 12) hx hb dX4_goBack_6 (by decide) (fun c6 => ?_) (fun c6 => ?_)
    · skip
      obtain ⟨i2, hi2, rfl⟩ := lt_y (n := 2) (by omega) c1 c6
      refine lv_aload_n hx hb dX4_goBack_12 rfl (lv_at hl 0 rfl) ?_
      refine va_get (D := gD G) (ci := 4) (v := .ref (h 3)) (C := RX4) (T := TX4) (N := 9) hx hb hts hiX4 hown hK hP 0 rfl rfl 3 (by decide) k23 (fun _ h9 => h9) rfl dX4_goBack_13 ?_
      refine lv_iload_n hx hb dX4_goBack_16 rfl (lv_at hl 1 rfl) ?_
      refine zaldN (f := x.2 3) (n := 2) (k := i2) hx hb hK hP 2 rfl rfl (by omega) dX4_goBack_17 ?_
      refine lv_if_ne (tgt := 24) hx hb dX4_goBack_18 (by decide) (fun c18 => ?_) (fun c18 => ?_)
      · skip
        rcases (show i2 = 0 ∨ i2 = 1 by omega) with rfl | rfl
        · skip
          refine lv_aload_n hx hb dX4_goBack_24 rfl (lv_at hl 0 rfl) ?_
          refine va_get (D := gD G) (ci := 4) (v := .ref (h 10)) (C := RX4) (T := TX4) (N := 9) hx hb hts hiX4 hown hK hP 0 rfl rfl 0 (by decide) k10 (fun _ h9 => h9) rfl dX4_goBack_25 ?_
          refine lv_aload_n hx hb dX4_goBack_28 rfl (lv_at hl 0 rfl) ?_
          refine va_get (D := gD G) (ci := 4) (v := .ref (h 2)) (C := RX4) (T := TX4) (N := 9) hx hb hts hiX4 hown hK hP 0 rfl rfl 2 (by decide) k19 (fun _ h9 => h9) rfl dX4_goBack_29 ?_
          refine lv_iload_n hx hb dX4_goBack_32 rfl (lv_at hl 1 rfl) ?_
          refine aaldW (f := fun i => some (h (30 + 10 * i))) (n := 2) (k := 0) (b := h 30) hx hb hK hP 1 rfl rfl (by decide) rfl dX4_goBack_33 ?_
          refine cWv (As := [.ref (h 30)]) (rest := []) (S := oS × oS) (wa := xw G h x wn wa w0 w1 rd wr z jj lt) (wc := wb G (fun k => h (10 + k)) (fun k => h (30 + k)) wn w0) (w1 := fun v => wb G (fun k => h (10 + k)) (fun k => h (30 + k)) v.1 v.2) (wa' := fun v => xw G h x v.1 wa v.2 w1 rd wr z jj lt) ⟨hx, hb, hml, hown, hts⟩ (mt_X3_become l G (fun k => h (10 + k)) _ wn w0 (fun k => h (30 + k))) (cwV 1 hts gX4_goBack_X3_become rfl rfl rfl (by decide +kernel) ⟨Nat.le_of_ble_eq_true rfl, Nat.le_of_ble_eq_true rfl⟩) hK hN hP hD hS hA [3, 4, 5, 6, 7, 8, 9, 10, 19, 20, 21, 22, 23, 24, 25, 26] rfl (by decide) rfl (fun _ => rfl) (fun _ => rfl) (fun _ => rfl) 0 3 rfl rfl rfl hl.1 rfl (Nat.le_of_ble_eq_true rfl) ⟨Nat.zero_le _, Nat.zero_le _⟩ dX4_goBack_34 (fun u34 H locs hw34 hP hD hS => ?_)
          obtain ⟨w34, rfl, e34a, e34b⟩ := hw34
          have hP : PP G (xw G h x w34 wa w0 w1 rd wr z jj lt) H := hP
          have hD : va_D A (xw G h x w34 wa w0 w1 rd wr z jj lt) := hD
          refine lv_aload_n hx hb dX4_goBack_37 rfl (lv_at hl 0 rfl) ?_
          refine lv_iconst (v := nI 0) hx hb dX4_goBack_38 (by decide) ?_
          refine va_put (D := gD G) (ci := 4) (v := .int (nI 0)) (ty := .boolean) (C := RX4) (T := TX4) (N := 9) hx hb hts hiX4 tyX4 tyX4_ok nmX4 hown hK hP hD hS 0 rfl rfl 7 (by decide) k48 (fun _ h9 => h9) rfl (by decide +kernel) (rfl) (rfl) (Nat.le_of_ble_eq_true rfl) dX4_goBack_39 (fun H locs hP hD hS => ?_)
          have hP : PP G (xw G h (oI x 7 (nI 0)) w34 wa w0 w1 rd wr z jj lt) H := hP
          have hD : va_D A (xw G h (oI x 7 (nI 0)) w34 wa w0 w1 rd wr z jj lt) := hD
          refine lv_aload_n hx hb dX4_goBack_42 rfl (lv_at hl 0 rfl) ?_
          refine va_get (D := gD G) (ci := 4) (v := .ref (h 10)) (C := RX4) (T := TX4) (N := 9) hx hb hts hiX4 hown hK hP 0 rfl rfl 0 (by decide) k10 (fun _ h9 => h9) rfl dX4_goBack_43 ?_
          refine va_getN (D := gD G) (ci := 3) (v := .int (w34.1 0)) (C := RX3) (T := TX3) (N := 9) hx hb hts hiX3 hown hK hP 3 rfl rfl 0 (by decide) k82 (fun _ h9 => h9) rfl dX4_goBack_46 ?_
          refine topE (e34a.trans (hnv0)) ?_
          exact W.iret (v := nI nv0) hx hb hr (fun t ht hW => ⟨⟨nI nv0, (oI x 7 (nI 0), w34, wa, w0, w1, rd, wr, z, jj, lt), rfl, ⟨_, _, _, _, _, _, _, _, _, _, rfl, ⟨nv0, nl0, e34a.trans (hnv0), by omega, e34b.trans (hnl0), by omega⟩, ⟨nva, nla, hnva, by omega, hnla, by omega⟩, ⟨nv0, nl0, hnv0, by omega, hnl0, by omega⟩, ⟨nv1, nl1, hnv1, by omega, hnl1, by omega⟩, rfl, rfl⟩, show PP G (xw G h (oI x 7 (nI 0)) w34 wa w0 w1 rd wr z jj lt) t.heap by rw [ht]; exact hP⟩, hS.F ht⟩) hS.2.2 dX4_goBack_49
        · skip
          refine lv_aload_n hx hb dX4_goBack_24 rfl (lv_at hl 0 rfl) ?_
          refine va_get (D := gD G) (ci := 4) (v := .ref (h 10)) (C := RX4) (T := TX4) (N := 9) hx hb hts hiX4 hown hK hP 0 rfl rfl 0 (by decide) k10 (fun _ h9 => h9) rfl dX4_goBack_25 ?_
          refine lv_aload_n hx hb dX4_goBack_28 rfl (lv_at hl 0 rfl) ?_
          refine va_get (D := gD G) (ci := 4) (v := .ref (h 2)) (C := RX4) (T := TX4) (N := 9) hx hb hts hiX4 hown hK hP 0 rfl rfl 2 (by decide) k19 (fun _ h9 => h9) rfl dX4_goBack_29 ?_
          refine lv_iload_n hx hb dX4_goBack_32 rfl (lv_at hl 1 rfl) ?_
          refine aaldW (f := fun i => some (h (30 + 10 * i))) (n := 2) (k := 1) (b := h 40) hx hb hK hP 1 rfl rfl (by decide) rfl dX4_goBack_33 ?_
          refine cWv (As := [.ref (h 40)]) (rest := []) (S := oS × oS) (wa := xw G h x wn wa w0 w1 rd wr z jj lt) (wc := wb G (fun k => h (10 + k)) (fun k => h (40 + k)) wn w1) (w1 := fun v => wb G (fun k => h (10 + k)) (fun k => h (40 + k)) v.1 v.2) (wa' := fun v => xw G h x v.1 wa w0 v.2 rd wr z jj lt) ⟨hx, hb, hml, hown, hts⟩ (mt_X3_become l G (fun k => h (10 + k)) _ wn w1 (fun k => h (40 + k))) (cwV 1 hts gX4_goBack_X3_become rfl rfl rfl (by decide +kernel) ⟨Nat.le_of_ble_eq_true rfl, Nat.le_of_ble_eq_true rfl⟩) hK hN hP hD hS hA [3, 4, 5, 6, 7, 8, 9, 10, 27, 28, 29, 30, 31, 32, 33, 34] rfl (by decide) rfl (fun _ => rfl) (fun _ => rfl) (fun _ => rfl) 0 3 rfl rfl rfl hl.1 rfl (Nat.le_of_ble_eq_true rfl) ⟨Nat.zero_le _, Nat.zero_le _⟩ dX4_goBack_34 (fun u34 H locs hw34 hP hD hS => ?_)
          obtain ⟨w34, rfl, e34a, e34b⟩ := hw34
          have hP : PP G (xw G h x w34 wa w0 w1 rd wr z jj lt) H := hP
          have hD : va_D A (xw G h x w34 wa w0 w1 rd wr z jj lt) := hD
          refine lv_aload_n hx hb dX4_goBack_37 rfl (lv_at hl 0 rfl) ?_
          refine lv_iconst (v := nI 0) hx hb dX4_goBack_38 (by decide) ?_
          refine va_put (D := gD G) (ci := 4) (v := .int (nI 0)) (ty := .boolean) (C := RX4) (T := TX4) (N := 9) hx hb hts hiX4 tyX4 tyX4_ok nmX4 hown hK hP hD hS 0 rfl rfl 7 (by decide) k48 (fun _ h9 => h9) rfl (by decide +kernel) (rfl) (rfl) (Nat.le_of_ble_eq_true rfl) dX4_goBack_39 (fun H locs hP hD hS => ?_)
          have hP : PP G (xw G h (oI x 7 (nI 0)) w34 wa w0 w1 rd wr z jj lt) H := hP
          have hD : va_D A (xw G h (oI x 7 (nI 0)) w34 wa w0 w1 rd wr z jj lt) := hD
          refine lv_aload_n hx hb dX4_goBack_42 rfl (lv_at hl 0 rfl) ?_
          refine va_get (D := gD G) (ci := 4) (v := .ref (h 10)) (C := RX4) (T := TX4) (N := 9) hx hb hts hiX4 hown hK hP 0 rfl rfl 0 (by decide) k10 (fun _ h9 => h9) rfl dX4_goBack_43 ?_
          refine va_getN (D := gD G) (ci := 3) (v := .int (w34.1 0)) (C := RX3) (T := TX3) (N := 9) hx hb hts hiX3 hown hK hP 3 rfl rfl 0 (by decide) k82 (fun _ h9 => h9) rfl dX4_goBack_46 ?_
          refine topE (e34a.trans (hnv1)) ?_
          exact W.iret (v := nI nv1) hx hb hr (fun t ht hW => ⟨⟨nI nv1, (oI x 7 (nI 0), w34, wa, w0, w1, rd, wr, z, jj, lt), rfl, ⟨_, _, _, _, _, _, _, _, _, _, rfl, ⟨nv1, nl1, e34a.trans (hnv1), by omega, e34b.trans (hnl1), by omega⟩, ⟨nva, nla, hnva, by omega, hnla, by omega⟩, ⟨nv0, nl0, hnv0, by omega, hnl0, by omega⟩, ⟨nv1, nl1, hnv1, by omega, hnl1, by omega⟩, rfl, rfl⟩, show PP G (xw G h (oI x 7 (nI 0)) w34 wa w0 w1 rd wr z jj lt) t.heap by rw [ht]; exact hP⟩, hS.F ht⟩) hS.2.2 dX4_goBack_49
      · skip
        refine lv_ldc (v := (-1000000003 : Int32)) hx hb hown (hts (.constant RX4 148 (-1000000003)) (List.mem_of_getElem? (i := 3) rfl)) dX4_goBack_21 ?_
        exact W.iret (v := (-1000000003 : Int32)) hx hb hr (fun t ht hW => ⟨⟨(-1000000003 : Int32), (x, wn, wa, w0, w1, rd, wr, z, jj, lt), rfl, ⟨_, _, _, _, _, _, _, _, _, _, rfl, ⟨nv, nl, hnv, by omega, hnl, by omega⟩, ⟨nva, nla, hnva, by omega, hnla, by omega⟩, ⟨nv0, nl0, hnv0, by omega, hnl0, by omega⟩, ⟨nv1, nl1, hnv1, by omega, hnl1, by omega⟩, rfl, rfl⟩, show PP G (xw G h x wn wa w0 w1 rd wr z jj lt) t.heap by rw [ht]; exact hP⟩, hS.F ht⟩) hS.2.2 dX4_goBack_23
    · skip
      refine lv_ldc (v := (-1000000001 : Int32)) hx hb hown (hts (.constant RX4 110 (-1000000001)) (List.mem_of_getElem? (i := 1) rfl)) dX4_goBack_9 ?_
      exact W.iret (v := (-1000000001 : Int32)) hx hb hr (fun t ht hW => ⟨⟨(-1000000001 : Int32), (x, wn, wa, w0, w1, rd, wr, z, jj, lt), rfl, ⟨_, _, _, _, _, _, _, _, _, _, rfl, ⟨nv, nl, hnv, by omega, hnl, by omega⟩, ⟨nva, nla, hnva, by omega, hnla, by omega⟩, ⟨nv0, nl0, hnv0, by omega, hnl0, by omega⟩, ⟨nv1, nl1, hnv1, by omega, hnl1, by omega⟩, rfl, rfl⟩, show PP G (xw G h x wn wa w0 w1 rd wr z jj lt) t.heap by rw [ht]; exact hP⟩, hS.F ht⟩) hS.2.2 dX4_goBack_11
