/-! the class: what it keeps to -/
def WI (w : oS) : Prop := ∃ nv nl, w.1 0 = nI nv ∧ nv ≤ 24 ∧ w.1 5 = nI nl ∧ nl ≤ 120
def XQ (x0 rd z : oS) (v : oS × oS × oS × oS × oS × oS × oS × oS × (Nat → Nat → Int64) × Int64) : Prop := ∃ x wn wa w0 w1 rd' wr z' jj lt, v = (x, wn, wa, w0, w1, rd', wr, z', jj, lt) ∧ WI wn ∧ WI wa ∧ WI w0 ∧ WI w1 ∧ rd'.1 1 = rd.1 1 ∧ z'.2 1 = z.2 1 ∧ rd'.2 0 = rd.2 0 ∧ x.1 8 = x0.1 8
theorem le_y {x : Int32} {n : Nat} (hn : n ≤ 100000) (h0 : ¬ x < 0) (h1 : x ≤ nI n) : ∃ j, j ≤ n ∧ x = nI j := by
  obtain ⟨j, h2, rfl⟩ := nI_of1 h0
  exact ⟨j, (nI_leI (a := j) (b := n) (by omega) (by omega)).mp h1, rfl⟩
theorem le_n1 {x : Int32} {n : Nat} (hn : n ≤ 100000) (h : x < 0) : ∀ j, j ≤ n → x ≠ nI j := by
  rintro j hj rfl
  exact nI_pos (by omega) h
theorem le_n2 {x : Int32} {n : Nat} (hn : n ≤ 100000) (h : ¬ x ≤ nI n) : ∀ j, j ≤ n → x ≠ nI j := by
  rintro j hj rfl
  exact h ((nI_leI (a := j) (b := n) (by omega) (by omega)).mpr hj)
theorem dr_y {x : Int32} (h1 : ¬ x < nI 1) (h2 : ¬ nI 24 < x) : ∃ j, j ≤ 24 ∧ x = nI j := by
  refine le_y (by omega) (fun q => h1 ?_) (Int32.not_lt.mp h2)
  rw [Int32.lt_iff_toInt_lt] at q ⊢
  have e0 : (0 : Int32).toInt = 0 := rfl
  have e1 : (nI 1).toInt = 1 := rfl
  omega
theorem lt_y {x : Int32} {n : Nat} (hn : n ≤ 100000) (h0 : ¬ x < 0) (h1 : x < nI n) : ∃ j, j < n ∧ x = nI j := by
  obtain ⟨j, h2, rfl⟩ := nI_of1 h0
  exact ⟨j, (nI_ltI (a := j) (b := n) (by omega) (by omega)).mp h1, rfl⟩

set_option maxHeartbeats 1000000 in
set_option maxRecDepth 100000 in
theorem mt_X4_openChanges (l : Launch) (G : gG) (h : Nat → Nat) (x : oS) (wn : oS) (wa : oS) (w0 : oS) (w1 : oS) (rd : oS) (wr : oS) (z : oS) (jj : Nat → Nat → Int64) (lt : Int64) (nv : Nat) (nl : Nat) (hnv : wn.1 0 = nI nv) (hnl : wn.1 5 = nI nl) (hnv24 : nv ≤ 24) (hnl120 : nl ≤ 120) : Met l yX4_openChanges wsX4_openChanges ({ frames := 1, cells := 0, slots := 0, locals := 21 }) (preR G (xw G h x wn wa w0 w1 rd wr z jj lt) [.ref (h 0)]) (vp_Si (fun r : Int32 => True)) 0 0 (fun _ => False) := by
  refine Met.ofW (cc := cX4_openChanges) (maxL := 1) (ret := (some .int)) (by decide) rfl ?_
  intro p e s m args below meth c s₁ B hml hv
  obtain ⟨ha, hP, hK, hN⟩ := hv
  subst ha
  have hx := B.exec
  have hb := B.bytes
  have hr := B.returns
  have hts := atoms_spec (ws := wsX4_openChanges) B.pre
  have hown : s.vm.findClass RX4 = some m.cls := findClass_of_methodNamed B.named
  have hlocks := B.notSynchronized
  have hiX4 : ∀ w ∈ wsX40, w ∈ wsX4_openChanges := by decide +kernel
  have k10 := hts (.fieldLink RX4 10 "WovenHistory" "now" "LWovenHistory$Weave;") (List.mem_of_getElem? (i := 1) rfl)
  have hiX3 : ∀ w ∈ wsX30, w ∈ wsX4_openChanges := by decide +kernel
  have k82 : (Cond.fieldLinkNest "WovenHistory" 82 "WovenHistory$Weave" "versions" "I" "WovenHistory").before _ s = true := va_Nw.use (A := ([.ref (h 0)] : List Value).toArray) rfl (hN.1 ("WovenHistory", 82, "WovenHistory$Weave", "versions", "I") (List.mem_of_getElem? (i := 12) rfl))
  have hl := lv_entry ([.ref (h 0)]) (n := 1) (Nat.le_of_ble_eq_true rfl)
  rw [lg_entry_eq]
  generalize (lg_sl ([.ref (h 0)]) ++ List.replicate (1 - (lg_sl ([.ref (h 0)])).length) Slot.unset).toArray = ls at hl ⊢
  have hl : lv_has ls 1 [(0, .ref (h 0))] := hl
  refine lv_aload_n hx hb dX4_openChanges_0 rfl (lv_at hl 0 rfl) ?_
  refine va_get (D := gD G) (ci := 4) (v := .ref (h 10)) (C := RX4) (T := TX4) (N := 9) hx hb hts hiX4 hown hK hP 0 (xp_0 _ _ _ _ _ _ _ _ _ _ _ _) rfl 0 (by decide) k10 (fun _ h9 => h9) rfl dX4_openChanges_1 ?_
  refine lv_aload_n hx hb dX4_openChanges_4 rfl (lv_at hl 0 rfl) ?_
  refine va_get (D := gD G) (ci := 4) (v := .ref (h 10)) (C := RX4) (T := TX4) (N := 9) hx hb hts hiX4 hown hK hP 0 (xp_0 _ _ _ _ _ _ _ _ _ _ _ _) rfl 0 (by decide) k10 (fun _ h9 => h9) rfl dX4_openChanges_5 ?_
  refine va_getN (D := gD G) (ci := 3) (v := .int (wn.1 0)) (C := RX3) (T := TX3) (N := 9) hx hb hts hiX3 hown hK hP 3 (xp_3 _ _ _ _ _ _ _ _ _ _ _ _) rfl 0 (by decide) k82 (fun _ h9 => h9) rfl dX4_openChanges_8 ?_
  refine topE hnv ?_
  refine cRi (w := wv G (fun k => h (10 + k)) wn) (As := [.int (nI nv)]) (rest := []) ⟨hx, hb, hml, hown, hts⟩ (mt_X3_changesOf l G (fun k => h (10 + k)) wn (nI nv)) (cwV 1 hts gX4_openChanges_X3_changesOf rfl rfl rfl (by decide +kernel) ⟨Nat.le_of_ble_eq_true rfl, Nat.le_of_ble_eq_true rfl⟩) hK hN (hP.sub [3, 4, 5, 6, 7, 8, 9, 10] (xf_now _ _ _ _ _ _ _ _ _ _ _ _)) 0 3 rfl rfl rfl hl.1 rfl (Nat.le_of_ble_eq_true rfl) ⟨Nat.zero_le _, Nat.zero_le _⟩ dX4_openChanges_11 (fun r11 hw11 => ?_)
  exact W.iret (v := r11) hx hb hr (fun t ht hW => ⟨r11, rfl, by first | rfl | trivial | omega | assumption, ht⟩) (fun _ h9 => by cases h9) dX4_openChanges_14
set_option maxHeartbeats 1000000 in
set_option maxRecDepth 100000 in
theorem mt_X4_openLines (l : Launch) (G : gG) (h : Nat → Nat) (x : oS) (wn : oS) (wa : oS) (w0 : oS) (w1 : oS) (rd : oS) (wr : oS) (z : oS) (jj : Nat → Nat → Int64) (lt : Int64) (nv : Nat) (nl : Nat) (hnv : wn.1 0 = nI nv) (hnl : wn.1 5 = nI nl) (hnv24 : nv ≤ 24) (hnl120 : nl ≤ 120) : Met l yX4_openLines wsX4_openLines ({ frames := 3, cells := 0, slots := 0, locals := 67 }) (preR G (xw G h x wn wa w0 w1 rd wr z jj lt) [.ref (h 0)]) (vp_Si (fun r : Int32 => ∃ n, n ≤ 120 ∧ r = nI n)) 0 0 (fun _ => False) := by
  refine Met.ofW (cc := cX4_openLines) (maxL := 1) (ret := (some .int)) (by decide) rfl ?_
  intro p e s m args below meth c s₁ B hml hv
  obtain ⟨ha, hP, hK, hN⟩ := hv
  subst ha
  have hx := B.exec
  have hb := B.bytes
  have hr := B.returns
  have hts := atoms_spec (ws := wsX4_openLines) B.pre
  have hown : s.vm.findClass RX4 = some m.cls := findClass_of_methodNamed B.named
  have hlocks := B.notSynchronized
  have hiX4 : ∀ w ∈ wsX40, w ∈ wsX4_openLines := by decide +kernel
  have k10 := hts (.fieldLink RX4 10 "WovenHistory" "now" "LWovenHistory$Weave;") (List.mem_of_getElem? (i := 1) rfl)
  have hl := lv_entry ([.ref (h 0)]) (n := 1) (Nat.le_of_ble_eq_true rfl)
  rw [lg_entry_eq]
  generalize (lg_sl ([.ref (h 0)]) ++ List.replicate (1 - (lg_sl ([.ref (h 0)])).length) Slot.unset).toArray = ls at hl ⊢
  have hl : lv_has ls 1 [(0, .ref (h 0))] := hl
  refine lv_aload_n hx hb dX4_openLines_0 rfl (lv_at hl 0 rfl) ?_
  refine va_get (D := gD G) (ci := 4) (v := .ref (h 10)) (C := RX4) (T := TX4) (N := 9) hx hb hts hiX4 hown hK hP 0 (xp_0 _ _ _ _ _ _ _ _ _ _ _ _) rfl 0 (by decide) k10 (fun _ h9 => h9) rfl dX4_openLines_1 ?_
  refine lv_aload_n hx hb dX4_openLines_4 rfl (lv_at hl 0 rfl) ?_
  refine cRi (w := xw G h x wn wa w0 w1 rd wr z jj lt) (As := []) (rest := [.ref (h 10)]) ⟨hx, hb, hml, hown, hts⟩ (mt_X4_openChanges l G h x wn wa w0 w1 rd wr z jj lt nv nl (hnv) (hnl) (by first | assumption | omega) (by first | assumption | omega)) (cwV 0 hts gX4_openLines_X4_openChanges rfl rfl rfl (by decide +kernel) ⟨Nat.le_of_ble_eq_true rfl, Nat.le_of_ble_eq_true rfl⟩) hK hN hP 0 4 rfl rfl rfl hl.1 rfl (Nat.le_of_ble_eq_true rfl) ⟨Nat.zero_le _, Nat.zero_le _⟩ dX4_openLines_5 (fun r5 hw5 => ?_)
  refine cRi (w := wv G (fun k => h (10 + k)) wn) (As := [.int r5]) (rest := []) ⟨hx, hb, hml, hown, hts⟩ (mt_X3_countStanding l G (fun k => h (10 + k)) wn nl r5 (hnl) (by first | assumption | omega)) (cwV 1 hts gX4_openLines_X3_countStanding rfl rfl rfl (by decide +kernel) ⟨Nat.le_of_ble_eq_true rfl, Nat.le_of_ble_eq_true rfl⟩) hK hN (hP.sub [3, 4, 5, 6, 7, 8, 9, 10] (xf_now _ _ _ _ _ _ _ _ _ _ _ _)) 0 3 rfl rfl rfl hl.1 rfl (Nat.le_of_ble_eq_true rfl) ⟨Nat.zero_le _, Nat.zero_le _⟩ dX4_openLines_8 (fun r8 hw8 => ?_)
  obtain rfl := hw8
  have hc8 := cnt_le (sdb (wn.2 7) (wn.2 8) r5) nl
  exact W.iret (v := nI (cnt (sdb (wn.2 7) (wn.2 8) r5) nl)) hx hb hr (fun t ht hW => ⟨nI (cnt (sdb (wn.2 7) (wn.2 8) r5) nl), rfl, ⟨_, by omega, rfl⟩, ht⟩) (fun _ h9 => by cases h9) dX4_openLines_11
set_option maxHeartbeats 1000000 in
set_option maxRecDepth 100000 in
theorem mt_X4_areTwoVersions (l : Launch) (G : gG) (h : Nat → Nat) (x : oS) (wn : oS) (wa : oS) (w0 : oS) (w1 : oS) (rd : oS) (wr : oS) (z : oS) (jj : Nat → Nat → Int64) (lt : Int64) (nv : Nat) (nl : Nat) (a : Int32) (b : Int32) (hnv : wn.1 0 = nI nv) (hnl : wn.1 5 = nI nl) (hnv24 : nv ≤ 24) (hnl120 : nl ≤ 120) : Met l yX4_areTwoVersions wsX4_areTwoVersions ({ frames := 1, cells := 0, slots := 0, locals := 21 }) (preR G (xw G h x wn wa w0 w1 rd wr z jj lt) [.ref (h 0), .int a, .int b]) (vp_Si (fun r : Int32 => (r = 1 ∧ (∃ j, j < nv ∧ a = nI j) ∧ (∃ j, j < nv ∧ b = nI j)) ∨ r = 0)) 0 0 (fun _ => False) := by
  refine Met.ofW (cc := cX4_areTwoVersions) (maxL := 3) (ret := (some .boolean)) (by decide) rfl ?_
  intro p e s m args below meth c s₁ B hml hv
  obtain ⟨ha, hP, hK, hN⟩ := hv
  subst ha
  have hx := B.exec
  have hb := B.bytes
  have hr := B.returns
  have hts := atoms_spec (ws := wsX4_areTwoVersions) B.pre
  have hown : s.vm.findClass RX4 = some m.cls := findClass_of_methodNamed B.named
  have hlocks := B.notSynchronized
  have hiX4 : ∀ w ∈ wsX40, w ∈ wsX4_areTwoVersions := by decide +kernel
  have k10 := hts (.fieldLink RX4 10 "WovenHistory" "now" "LWovenHistory$Weave;") (List.mem_of_getElem? (i := 1) rfl)
  have hl := lv_entry ([.ref (h 0), .int a, .int b]) (n := 3) (Nat.le_of_ble_eq_true rfl)
  rw [lg_entry_eq]
  generalize (lg_sl ([.ref (h 0), .int a, .int b]) ++ List.replicate (3 - (lg_sl ([.ref (h 0), .int a, .int b])).length) Slot.unset).toArray = ls at hl ⊢
  have hl : lv_has ls 3 [(0, .ref (h 0)), (1, .int a), (2, .int b)] := hl
  refine lv_iload_n hx hb dX4_areTwoVersions_0 rfl (lv_at hl 1 rfl) ?_
  refine lv_iload_n hx hb dX4_areTwoVersions_1 rfl (lv_at hl 2 rfl) ?_
  refine lv_icmp_eq (tgt := 31) hx hb dX4_areTwoVersions_2 (by decide) (fun c2 => ?_) (fun c2 => ?_)
  · skip
    refine lv_iconst (v := nI 0) hx hb dX4_areTwoVersions_31 (by decide) ?_
    exact W.zret (v := nI 0) hx hb hr (by decide) (fun t ht hW => ⟨nI 0, rfl, by first | exact Or.inr rfl | exact Or.inl ⟨rfl, ⟨_, hj10, ej10⟩, ⟨_, hj21, ej21⟩⟩, ht⟩) (fun _ h9 => by cases h9) dX4_areTwoVersions_32
  · skip
    refine lv_aload_n hx hb dX4_areTwoVersions_5 rfl (lv_at hl 0 rfl) ?_
    refine va_get (D := gD G) (ci := 4) (v := .ref (h 10)) (C := RX4) (T := TX4) (N := 9) hx hb hts hiX4 hown hK hP 0 (xp_0 _ _ _ _ _ _ _ _ _ _ _ _) rfl 0 (by decide) k10 (fun _ h9 => h9) rfl dX4_areTwoVersions_6 ?_
    refine lv_iload_n hx hb dX4_areTwoVersions_9 rfl (lv_at hl 1 rfl) ?_
    refine cRi (w := wv G (fun k => h (10 + k)) wn) (As := [.int a]) (rest := []) ⟨hx, hb, hml, hown, hts⟩ (mt_X3_hasVersion l G (fun k => h (10 + k)) wn nv a (hnv) (by first | assumption | omega)) (cwV 1 hts gX4_areTwoVersions_X3_hasVersion rfl rfl rfl (by decide +kernel) ⟨Nat.le_of_ble_eq_true rfl, Nat.le_of_ble_eq_true rfl⟩) hK hN (hP.sub [3, 4, 5, 6, 7, 8, 9, 10] (xf_now _ _ _ _ _ _ _ _ _ _ _ _)) 0 3 rfl rfl rfl hl.1 rfl (Nat.le_of_ble_eq_true rfl) ⟨Nat.zero_le _, Nat.zero_le _⟩ dX4_areTwoVersions_10 (fun r10 hw10 => ?_)
    rcases hw10 with ⟨rfl, j10, hj10, ej10⟩ | ⟨rfl, hn10⟩
    · skip
      refine lv_if_eq (tgt := 31) hx hb dX4_areTwoVersions_13 (by decide) (fun c9 => absurd c9 (by decide)) (fun _ => ?_)
      refine lv_aload_n hx hb dX4_areTwoVersions_16 rfl (lv_at hl 0 rfl) ?_
      refine va_get (D := gD G) (ci := 4) (v := .ref (h 10)) (C := RX4) (T := TX4) (N := 9) hx hb hts hiX4 hown hK hP 0 (xp_0 _ _ _ _ _ _ _ _ _ _ _ _) rfl 0 (by decide) k10 (fun _ h9 => h9) rfl dX4_areTwoVersions_17 ?_
      refine lv_iload_n hx hb dX4_areTwoVersions_20 rfl (lv_at hl 2 rfl) ?_
      refine cRi (w := wv G (fun k => h (10 + k)) wn) (As := [.int b]) (rest := []) ⟨hx, hb, hml, hown, hts⟩ (mt_X3_hasVersion l G (fun k => h (10 + k)) wn nv b (hnv) (by first | assumption | omega)) (cwV 1 hts gX4_areTwoVersions_X3_hasVersion rfl rfl rfl (by decide +kernel) ⟨Nat.le_of_ble_eq_true rfl, Nat.le_of_ble_eq_true rfl⟩) hK hN (hP.sub [3, 4, 5, 6, 7, 8, 9, 10] (xf_now _ _ _ _ _ _ _ _ _ _ _ _)) 0 3 rfl rfl rfl hl.1 rfl (Nat.le_of_ble_eq_true rfl) ⟨Nat.zero_le _, Nat.zero_le _⟩ dX4_areTwoVersions_21 (fun r21 hw21 => ?_)
      rcases hw21 with ⟨rfl, j21, hj21, ej21⟩ | ⟨rfl, hn21⟩
      · skip
        refine lv_if_eq (tgt := 31) hx hb dX4_areTwoVersions_24 (by decide) (fun c9 => absurd c9 (by decide)) (fun _ => ?_)
        refine lv_iconst (v := nI 1) hx hb dX4_areTwoVersions_27 (by decide) ?_
        refine lv_goto (tgt := 32) hx hb dX4_areTwoVersions_28 (by decide) ?_
        exact W.zret (v := nI 1) hx hb hr (by decide) (fun t ht hW => ⟨nI 1, rfl, by first | exact Or.inr rfl | exact Or.inl ⟨rfl, ⟨_, hj10, ej10⟩, ⟨_, hj21, ej21⟩⟩, ht⟩) (fun _ h9 => by cases h9) dX4_areTwoVersions_32
      · skip
        refine lv_if_eq (tgt := 31) hx hb dX4_areTwoVersions_24 (by decide) (fun _ => ?_) (fun c9 => absurd (by decide) c9)
        refine lv_iconst (v := nI 0) hx hb dX4_areTwoVersions_31 (by decide) ?_
        exact W.zret (v := nI 0) hx hb hr (by decide) (fun t ht hW => ⟨nI 0, rfl, by first | exact Or.inr rfl | exact Or.inl ⟨rfl, ⟨_, hj10, ej10⟩, ⟨_, hj21, ej21⟩⟩, ht⟩) (fun _ h9 => by cases h9) dX4_areTwoVersions_32
    · skip
      refine lv_if_eq (tgt := 31) hx hb dX4_areTwoVersions_13 (by decide) (fun _ => ?_) (fun c9 => absurd (by decide) c9)
      refine lv_iconst (v := nI 0) hx hb dX4_areTwoVersions_31 (by decide) ?_
      exact W.zret (v := nI 0) hx hb hr (by decide) (fun t ht hW => ⟨nI 0, rfl, by first | exact Or.inr rfl | exact Or.inl ⟨rfl, ⟨_, hj10, ej10⟩, ⟨_, hj21, ej21⟩⟩, ht⟩) (fun _ h9 => by cases h9) dX4_areTwoVersions_32
set_option maxHeartbeats 1000000 in
set_option maxRecDepth 100000 in
theorem mt_X4_fault (l : Launch) (G : gG) (h : Nat → Nat) (x : oS) (wn : oS) (wa : oS) (w0 : oS) (w1 : oS) (rd : oS) (wr : oS) (z : oS) (jj : Nat → Nat → Int64) (lt : Int64) (nv : Nat) (nl : Nat) (hnv : wn.1 0 = nI nv) (hnl : wn.1 5 = nI nl) (hnv24 : nv ≤ 24) (hnl120 : nl ≤ 120) : Met l yX4_fault wsX4_fault ({ frames := 0, cells := 0, slots := 0, locals := 0 }) (preR G (xw G h x wn wa w0 w1 rd wr z jj lt) [.ref (h 0)]) (vp_Si (fun r : Int32 => r = x.1 8)) 0 0 (fun _ => False) := by
  refine Met.ofW (cc := cX4_fault) (maxL := 1) (ret := (some .int)) (by decide) rfl ?_
  intro p e s m args below meth c s₁ B hml hv
  obtain ⟨ha, hP, hK, hN⟩ := hv
  subst ha
  have hx := B.exec
  have hb := B.bytes
  have hr := B.returns
  have hts := atoms_spec (ws := wsX4_fault) B.pre
  have hown : s.vm.findClass RX4 = some m.cls := findClass_of_methodNamed B.named
  have hlocks := B.notSynchronized
  have hiX4 : ∀ w ∈ wsX40, w ∈ wsX4_fault := by decide +kernel
  have k52 := hts (.fieldLink RX4 52 "WovenHistory" "latestFaultAt" "I") (List.mem_of_getElem? (i := 1) rfl)
  have hl := lv_entry ([.ref (h 0)]) (n := 1) (Nat.le_of_ble_eq_true rfl)
  rw [lg_entry_eq]
  generalize (lg_sl ([.ref (h 0)]) ++ List.replicate (1 - (lg_sl ([.ref (h 0)])).length) Slot.unset).toArray = ls at hl ⊢
  have hl : lv_has ls 1 [(0, .ref (h 0))] := hl
  refine lv_aload_n hx hb dX4_fault_0 rfl (lv_at hl 0 rfl) ?_
  refine va_get (D := gD G) (ci := 4) (v := .int (x.1 8)) (C := RX4) (T := TX4) (N := 9) hx hb hts hiX4 hown hK hP 0 (xp_0 _ _ _ _ _ _ _ _ _ _ _ _) rfl 8 (by decide) k52 (fun _ h9 => h9) rfl dX4_fault_1 ?_
  exact W.iret (v := x.1 8) hx hb hr (fun t ht hW => ⟨x.1 8, rfl, rfl, ht⟩) (fun _ h9 => by cases h9) dX4_fault_4
set_option maxHeartbeats 1000000 in
set_option maxRecDepth 100000 in
theorem mt_X4_told (l : Launch) (G : gG) (h : Nat → Nat) (x : oS) (wn : oS) (wa : oS) (w0 : oS) (w1 : oS) (rd : oS) (wr : oS) (z : oS) (jj : Nat → Nat → Int64) (lt : Int64) (nv : Nat) (nl : Nat) (what : Int32) (hnv : wn.1 0 = nI nv) (hnl : wn.1 5 = nI nl) (hnv24 : nv ≤ 24) (hnl120 : nl ≤ 120) : Met l yX4_told wsX4_told ({ frames := 4, cells := 0, slots := 0, locals := 87 }) (preR G (xw G h x wn wa w0 w1 rd wr z jj lt) [.ref (h 0), .int what]) (vp_Si (fun r : Int32 => True)) 0 0 (fun _ => False) := by
  refine Met.ofW (cc := cX4_told) (maxL := 2) (ret := (some .int)) (by decide) rfl ?_
  intro p e s m args below meth c s₁ B hml hv
  obtain ⟨ha, hP, hK, hN⟩ := hv
  subst ha
  have hx := B.exec
  have hb := B.bytes
  have hr := B.returns
  have hts := atoms_spec (ws := wsX4_told) B.pre
  have hown : s.vm.findClass RX4 = some m.cls := findClass_of_methodNamed B.named
  have hlocks := B.notSynchronized
  have hiX4 : ∀ w ∈ wsX40, w ∈ wsX4_told := by decide +kernel
  have k10 := hts (.fieldLink RX4 10 "WovenHistory" "now" "LWovenHistory$Weave;") (List.mem_of_getElem? (i := 1) rfl)
  have hiX3 : ∀ w ∈ wsX30, w ∈ wsX4_told := by decide +kernel
  have k82 : (Cond.fieldLinkNest "WovenHistory" 82 "WovenHistory$Weave" "versions" "I" "WovenHistory").before _ s = true := va_Nw.use (A := ([.ref (h 0), .int what] : List Value).toArray) rfl (hN.1 ("WovenHistory", 82, "WovenHistory$Weave", "versions", "I") (List.mem_of_getElem? (i := 12) rfl))
  have k85 : (Cond.fieldLinkNest "WovenHistory" 85 "WovenHistory$Weave" "lines" "I" "WovenHistory").before _ s = true := va_Nw.use (A := ([.ref (h 0), .int what] : List Value).toArray) rfl (hN.1 ("WovenHistory", 85, "WovenHistory$Weave", "lines", "I") (List.mem_of_getElem? (i := 13) rfl))
  have k48 := hts (.fieldLink RX4 48 "WovenHistory" "opened" "Z") (List.mem_of_getElem? (i := 2) rfl)
  have k30 := hts (.fieldLink RX4 30 "WovenHistory" "reader" "LWovenHistory$Reader;") (List.mem_of_getElem? (i := 3) rfl)
  have hiX1 : ∀ w ∈ wsX10, w ∈ wsX4_told := by decide +kernel
  have k61 : (Cond.fieldLinkNest "WovenHistory" 61 "WovenHistory$Reader" "length" "I" "WovenHistory").before _ s = true := va_Nw.use (A := ([.ref (h 0), .int what] : List Value).toArray) rfl (hN.1 ("WovenHistory", 61, "WovenHistory$Reader", "length", "I") (List.mem_of_getElem? (i := 9) rfl))
  have k37 := hts (.fieldLink RX4 37 "WovenHistory" "sheets" "LWovenHistory$Sheets;") (List.mem_of_getElem? (i := 4) rfl)
  have hl := lv_entry ([.ref (h 0), .int what]) (n := 2) (Nat.le_of_ble_eq_true rfl)
  rw [lg_entry_eq]
  generalize (lg_sl ([.ref (h 0), .int what]) ++ List.replicate (2 - (lg_sl ([.ref (h 0), .int what])).length) Slot.unset).toArray = ls at hl ⊢
  have hl : lv_has ls 2 [(0, .ref (h 0)), (1, .int what)] := hl
  refine lv_iload_n hx hb dX4_told_0 rfl (lv_at hl 1 rfl) ?_
  by_cases q1_0 : what = 0
  · skip
    subst q1_0
    refine lv_tableIn (tgt := 56) hx hb dX4_told_1 (by decide) (by decide) rfl (by decide) ?_
    refine lv_aload_n hx hb dX4_told_56 rfl (lv_at hl 0 rfl) ?_
    refine va_get (D := gD G) (ci := 4) (v := .ref (h 10)) (C := RX4) (T := TX4) (N := 9) hx hb hts hiX4 hown hK hP 0 (xp_0 _ _ _ _ _ _ _ _ _ _ _ _) rfl 0 (by decide) k10 (fun _ h9 => h9) rfl dX4_told_57 ?_
    refine va_getN (D := gD G) (ci := 3) (v := .int (wn.1 0)) (C := RX3) (T := TX3) (N := 9) hx hb hts hiX3 hown hK hP 3 (xp_3 _ _ _ _ _ _ _ _ _ _ _ _) rfl 0 (by decide) k82 (fun _ h9 => h9) rfl dX4_told_60 ?_
    refine topE hnv ?_
    exact W.iret (v := nI nv) hx hb hr (fun t ht hW => ⟨nI nv, rfl, by first | rfl | trivial | omega | assumption, ht⟩) (fun _ h9 => by cases h9) dX4_told_63
  by_cases q1_1 : what = 1
  · skip
    subst q1_1
    refine lv_tableIn (tgt := 64) hx hb dX4_told_1 (by decide) (by decide) rfl (by decide) ?_
    refine lv_aload_n hx hb dX4_told_64 rfl (lv_at hl 0 rfl) ?_
    refine va_get (D := gD G) (ci := 4) (v := .ref (h 10)) (C := RX4) (T := TX4) (N := 9) hx hb hts hiX4 hown hK hP 0 (xp_0 _ _ _ _ _ _ _ _ _ _ _ _) rfl 0 (by decide) k10 (fun _ h9 => h9) rfl dX4_told_65 ?_
    refine va_getN (D := gD G) (ci := 3) (v := .int (wn.1 5)) (C := RX3) (T := TX3) (N := 9) hx hb hts hiX3 hown hK hP 3 (xp_3 _ _ _ _ _ _ _ _ _ _ _ _) rfl 5 (by decide) k85 (fun _ h9 => h9) rfl dX4_told_68 ?_
    refine topE hnl ?_
    exact W.iret (v := nI nl) hx hb hr (fun t ht hW => ⟨nI nl, rfl, by first | rfl | trivial | omega | assumption, ht⟩) (fun _ h9 => by cases h9) dX4_told_71
  by_cases q1_2 : what = 2
  · skip
    subst q1_2
    refine lv_tableIn (tgt := 72) hx hb dX4_told_1 (by decide) (by decide) rfl (by decide) ?_
    refine lv_aload_n hx hb dX4_told_72 rfl (lv_at hl 0 rfl) ?_
    refine va_get (D := gD G) (ci := 4) (v := .int (x.1 7)) (C := RX4) (T := TX4) (N := 9) hx hb hts hiX4 hown hK hP 0 (xp_0 _ _ _ _ _ _ _ _ _ _ _ _) rfl 7 (by decide) k48 (fun _ h9 => h9) rfl dX4_told_73 ?_
    refine lv_if_eq (tgt := 96) hx hb dX4_told_76 (by decide) (fun c76 => ?_) (fun c76 => ?_)
    · skip
      refine lv_iconst (v := (-1 : Int32)) hx hb dX4_told_96 (by decide) ?_
      exact W.iret (v := (-1 : Int32)) hx hb hr (fun t ht hW => ⟨(-1 : Int32), rfl, by first | rfl | trivial | omega | assumption, ht⟩) (fun _ h9 => by cases h9) dX4_told_97
    · skip
      refine lv_aload_n hx hb dX4_told_79 rfl (lv_at hl 0 rfl) ?_
      refine va_get (D := gD G) (ci := 4) (v := .ref (h 10)) (C := RX4) (T := TX4) (N := 9) hx hb hts hiX4 hown hK hP 0 (xp_0 _ _ _ _ _ _ _ _ _ _ _ _) rfl 0 (by decide) k10 (fun _ h9 => h9) rfl dX4_told_80 ?_
      refine lv_aload_n hx hb dX4_told_83 rfl (lv_at hl 0 rfl) ?_
      refine va_get (D := gD G) (ci := 4) (v := .ref (h 10)) (C := RX4) (T := TX4) (N := 9) hx hb hts hiX4 hown hK hP 0 (xp_0 _ _ _ _ _ _ _ _ _ _ _ _) rfl 0 (by decide) k10 (fun _ h9 => h9) rfl dX4_told_84 ?_
      refine va_getN (D := gD G) (ci := 3) (v := .int (wn.1 0)) (C := RX3) (T := TX3) (N := 9) hx hb hts hiX3 hown hK hP 3 (xp_3 _ _ _ _ _ _ _ _ _ _ _ _) rfl 0 (by decide) k82 (fun _ h9 => h9) rfl dX4_told_87 ?_
      refine topE hnv ?_
      refine cRi (w := wv G (fun k => h (10 + k)) wn) (As := [.int (nI nv)]) (rest := []) ⟨hx, hb, hml, hown, hts⟩ (mt_X3_parentOf l G (fun k => h (10 + k)) wn (nI nv)) (cwV 1 hts gX4_told_X3_parentOf rfl rfl rfl (by decide +kernel) ⟨Nat.le_of_ble_eq_true rfl, Nat.le_of_ble_eq_true rfl⟩) hK hN (hP.sub [3, 4, 5, 6, 7, 8, 9, 10] (xf_now _ _ _ _ _ _ _ _ _ _ _ _)) 0 3 rfl rfl rfl hl.1 rfl (Nat.le_of_ble_eq_true rfl) ⟨Nat.zero_le _, Nat.zero_le _⟩ dX4_told_90 (fun r90 hw90 => ?_)
      refine lv_goto (tgt := 97) hx hb dX4_told_93 (by decide) ?_
      exact W.iret (v := r90) hx hb hr (fun t ht hW => ⟨r90, rfl, by first | rfl | trivial | omega | assumption, ht⟩) (fun _ h9 => by cases h9) dX4_told_97
  by_cases q1_3 : what = 3
  · skip
    subst q1_3
    refine lv_tableIn (tgt := 98) hx hb dX4_told_1 (by decide) (by decide) rfl (by decide) ?_
    refine lv_aload_n hx hb dX4_told_98 rfl (lv_at hl 0 rfl) ?_
    refine va_get (D := gD G) (ci := 4) (v := .int (x.1 7)) (C := RX4) (T := TX4) (N := 9) hx hb hts hiX4 hown hK hP 0 (xp_0 _ _ _ _ _ _ _ _ _ _ _ _) rfl 7 (by decide) k48 (fun _ h9 => h9) rfl dX4_told_99 ?_
    refine lv_if_eq (tgt := 109) hx hb dX4_told_102 (by decide) (fun c102 => ?_) (fun c102 => ?_)
    · skip
      refine lv_iconst (v := nI 0) hx hb dX4_told_109 (by decide) ?_
      exact W.iret (v := nI 0) hx hb hr (fun t ht hW => ⟨nI 0, rfl, by first | rfl | trivial | omega | assumption, ht⟩) (fun _ h9 => by cases h9) dX4_told_110
    · skip
      refine lv_iconst (v := nI 1) hx hb dX4_told_105 (by decide) ?_
      refine lv_goto (tgt := 110) hx hb dX4_told_106 (by decide) ?_
      exact W.iret (v := nI 1) hx hb hr (fun t ht hW => ⟨nI 1, rfl, by first | rfl | trivial | omega | assumption, ht⟩) (fun _ h9 => by cases h9) dX4_told_110
  by_cases q1_4 : what = 4
  · skip
    subst q1_4
    refine lv_tableIn (tgt := 111) hx hb dX4_told_1 (by decide) (by decide) rfl (by decide) ?_
    refine lv_aload_n hx hb dX4_told_111 rfl (lv_at hl 0 rfl) ?_
    refine va_get (D := gD G) (ci := 4) (v := .int (x.1 7)) (C := RX4) (T := TX4) (N := 9) hx hb hts hiX4 hown hK hP 0 (xp_0 _ _ _ _ _ _ _ _ _ _ _ _) rfl 7 (by decide) k48 (fun _ h9 => h9) rfl dX4_told_112 ?_
    refine lv_if_eq (tgt := 125) hx hb dX4_told_115 (by decide) (fun c115 => ?_) (fun c115 => ?_)
    · skip
      refine lv_iconst (v := nI 0) hx hb dX4_told_125 (by decide) ?_
      exact W.iret (v := nI 0) hx hb hr (fun t ht hW => ⟨nI 0, rfl, by first | rfl | trivial | omega | assumption, ht⟩) (fun _ h9 => by cases h9) dX4_told_126
    · skip
      refine lv_aload_n hx hb dX4_told_118 rfl (lv_at hl 0 rfl) ?_
      refine cRi (w := xw G h x wn wa w0 w1 rd wr z jj lt) (As := []) (rest := []) ⟨hx, hb, hml, hown, hts⟩ (mt_X4_openLines l G h x wn wa w0 w1 rd wr z jj lt nv nl (hnv) (hnl) (by first | assumption | omega) (by first | assumption | omega)) (cwV 0 hts gX4_told_X4_openLines rfl rfl rfl (by decide +kernel) ⟨Nat.le_of_ble_eq_true rfl, Nat.le_of_ble_eq_true rfl⟩) hK hN hP 0 4 rfl rfl rfl hl.1 rfl (Nat.le_of_ble_eq_true rfl) ⟨Nat.zero_le _, Nat.zero_le _⟩ dX4_told_119 (fun r119 hw119 => ?_)
      obtain ⟨n119, hn119, rfl⟩ := hw119
      refine lv_goto (tgt := 126) hx hb dX4_told_122 (by decide) ?_
      exact W.iret (v := nI (n119)) hx hb hr (fun t ht hW => ⟨nI (n119), rfl, by first | rfl | trivial | omega | assumption, ht⟩) (fun _ h9 => by cases h9) dX4_told_126
  by_cases q1_5 : what = 5
  · skip
    subst q1_5
    refine lv_tableIn (tgt := 127) hx hb dX4_told_1 (by decide) (by decide) rfl (by decide) ?_
    refine lv_aload_n hx hb dX4_told_127 rfl (lv_at hl 0 rfl) ?_
    refine va_get (D := gD G) (ci := 4) (v := .ref (h 10)) (C := RX4) (T := TX4) (N := 9) hx hb hts hiX4 hown hK hP 0 (xp_0 _ _ _ _ _ _ _ _ _ _ _ _) rfl 0 (by decide) k10 (fun _ h9 => h9) rfl dX4_told_128 ?_
    refine cRi (w := wv G (fun k => h (10 + k)) wn) (As := []) (rest := []) ⟨hx, hb, hml, hown, hts⟩ (mt_X3_countBlocks l G (fun k => h (10 + k)) wn nl (hnl) (by first | assumption | omega)) (cwV 0 hts gX4_told_X3_countBlocks rfl rfl rfl (by decide +kernel) ⟨Nat.le_of_ble_eq_true rfl, Nat.le_of_ble_eq_true rfl⟩) hK hN (hP.sub [3, 4, 5, 6, 7, 8, 9, 10] (xf_now _ _ _ _ _ _ _ _ _ _ _ _)) 0 3 rfl rfl rfl hl.1 rfl (Nat.le_of_ble_eq_true rfl) ⟨Nat.zero_le _, Nat.zero_le _⟩ dX4_told_131 (fun r131 hw131 => ?_)
    exact W.iret (v := r131) hx hb hr (fun t ht hW => ⟨r131, rfl, by first | rfl | trivial | omega | assumption, ht⟩) (fun _ h9 => by cases h9) dX4_told_134
  by_cases q1_6 : what = 6
  · skip
    subst q1_6
    refine lv_tableIn (tgt := 135) hx hb dX4_told_1 (by decide) (by decide) rfl (by decide) ?_
    refine lv_aload_n hx hb dX4_told_135 rfl (lv_at hl 0 rfl) ?_
    refine va_get (D := gD G) (ci := 4) (v := .ref (h 10)) (C := RX4) (T := TX4) (N := 9) hx hb hts hiX4 hown hK hP 0 (xp_0 _ _ _ _ _ _ _ _ _ _ _ _) rfl 0 (by decide) k10 (fun _ h9 => h9) rfl dX4_told_136 ?_
    refine cRi (w := wv G (fun k => h (10 + k)) wn) (As := []) (rest := []) ⟨hx, hb, hml, hown, hts⟩ (mt_X3_greatestNesting l G (fun k => h (10 + k)) wn nl (hnl) (by first | assumption | omega)) (cwV 0 hts gX4_told_X3_greatestNesting rfl rfl rfl (by decide +kernel) ⟨Nat.le_of_ble_eq_true rfl, Nat.le_of_ble_eq_true rfl⟩) hK hN (hP.sub [3, 4, 5, 6, 7, 8, 9, 10] (xf_now _ _ _ _ _ _ _ _ _ _ _ _)) 0 3 rfl rfl rfl hl.1 rfl (Nat.le_of_ble_eq_true rfl) ⟨Nat.zero_le _, Nat.zero_le _⟩ dX4_told_139 (fun r139 hw139 => ?_)
    exact W.iret (v := r139) hx hb hr (fun t ht hW => ⟨r139, rfl, by first | rfl | trivial | omega | assumption, ht⟩) (fun _ h9 => by cases h9) dX4_told_142
  by_cases q1_7 : what = 7
  · skip
    subst q1_7
    refine lv_tableIn (tgt := 143) hx hb dX4_told_1 (by decide) (by decide) rfl (by decide) ?_
    refine lv_aload_n hx hb dX4_told_143 rfl (lv_at hl 0 rfl) ?_
    refine va_get (D := gD G) (ci := 4) (v := .ref (h 10)) (C := RX4) (T := TX4) (N := 9) hx hb hts hiX4 hown hK hP 0 (xp_0 _ _ _ _ _ _ _ _ _ _ _ _) rfl 0 (by decide) k10 (fun _ h9 => h9) rfl dX4_told_144 ?_
    refine cRi (w := wv G (fun k => h (10 + k)) wn) (As := []) (rest := []) ⟨hx, hb, hml, hown, hts⟩ (mt_X3_countGone l G (fun k => h (10 + k)) wn nv nl (hnv) (hnl) (by first | assumption | omega) (by first | assumption | omega)) (cwV 0 hts gX4_told_X3_countGone rfl rfl rfl (by decide +kernel) ⟨Nat.le_of_ble_eq_true rfl, Nat.le_of_ble_eq_true rfl⟩) hK hN (hP.sub [3, 4, 5, 6, 7, 8, 9, 10] (xf_now _ _ _ _ _ _ _ _ _ _ _ _)) 0 3 rfl rfl rfl hl.1 rfl (Nat.le_of_ble_eq_true rfl) ⟨Nat.zero_le _, Nat.zero_le _⟩ dX4_told_147 (fun r147 hw147 => ?_)
    exact W.iret (v := r147) hx hb hr (fun t ht hW => ⟨r147, rfl, by first | rfl | trivial | omega | assumption, ht⟩) (fun _ h9 => by cases h9) dX4_told_150
  by_cases q1_8 : what = 8
  · skip
    subst q1_8
    refine lv_tableIn (tgt := 151) hx hb dX4_told_1 (by decide) (by decide) rfl (by decide) ?_
    refine lv_aload_n hx hb dX4_told_151 rfl (lv_at hl 0 rfl) ?_
    refine va_get (D := gD G) (ci := 4) (v := .ref (h 50)) (C := RX4) (T := TX4) (N := 9) hx hb hts hiX4 hown hK hP 0 (xp_0 _ _ _ _ _ _ _ _ _ _ _ _) rfl 4 (by decide) k30 (fun _ h9 => h9) rfl dX4_told_152 ?_
    refine va_getN (D := gD G) (ci := 1) (v := .int (rd.1 1)) (C := RX1) (T := TX1) (N := 10) hx hb hts hiX1 hown hK hP 35 (xp_35 _ _ _ _ _ _ _ _ _ _ _ _) rfl 1 (by decide) k61 (fun _ h9 => h9) rfl dX4_told_155 ?_
    exact W.iret (v := rd.1 1) hx hb hr (fun t ht hW => ⟨rd.1 1, rfl, by first | rfl | trivial | omega | assumption, ht⟩) (fun _ h9 => by cases h9) dX4_told_158
  by_cases q1_9 : what = 9
  · skip
    subst q1_9
    refine lv_tableIn (tgt := 159) hx hb dX4_told_1 (by decide) (by decide) rfl (by decide) ?_
    refine lv_aload_n hx hb dX4_told_159 rfl (lv_at hl 0 rfl) ?_
    refine va_get (D := gD G) (ci := 4) (v := .ref (h 70)) (C := RX4) (T := TX4) (N := 9) hx hb hts hiX4 hown hK hP 0 (xp_0 _ _ _ _ _ _ _ _ _ _ _ _) rfl 5 (by decide) k37 (fun _ h9 => h9) rfl dX4_told_160 ?_
    refine cRi (w := sv G (fun k => h (70 + k)) z jj) (As := []) (rest := []) ⟨hx, hb, hml, hown, hts⟩ (mt_X2_countThere l G (fun k => h (70 + k)) z jj) (cwV 0 hts gX4_told_X2_countThere rfl rfl rfl (by decide +kernel) ⟨Nat.le_of_ble_eq_true rfl, Nat.le_of_ble_eq_true rfl⟩) hK hN (hP.sub [47, 48, 49, 50, 51, 52, 53] (xf_z _ _ _ _ _ _ _ _ _ _ _ _)) 0 2 rfl rfl rfl hl.1 rfl (Nat.le_of_ble_eq_true rfl) ⟨Nat.zero_le _, Nat.zero_le _⟩ dX4_told_163 (fun r163 hw163 => ?_)
    exact W.iret (v := r163) hx hb hr (fun t ht hW => ⟨r163, rfl, by first | rfl | trivial | omega | assumption, ht⟩) (fun _ h9 => by cases h9) dX4_told_166
  have t1_0 : ¬ what.toInt = 0 := lv_neT q1_0 rfl
  have t1_1 : ¬ what.toInt = 1 := lv_neT q1_1 rfl
  have t1_2 : ¬ what.toInt = 2 := lv_neT q1_2 rfl
  have t1_3 : ¬ what.toInt = 3 := lv_neT q1_3 rfl
  have t1_4 : ¬ what.toInt = 4 := lv_neT q1_4 rfl
  have t1_5 : ¬ what.toInt = 5 := lv_neT q1_5 rfl
  have t1_6 : ¬ what.toInt = 6 := lv_neT q1_6 rfl
  have t1_7 : ¬ what.toInt = 7 := lv_neT q1_7 rfl
  have t1_8 : ¬ what.toInt = 8 := lv_neT q1_8 rfl
  have t1_9 : ¬ what.toInt = 9 := lv_neT q1_9 rfl
  refine lv_tableOut (tgt := 167) hx hb dX4_told_1 (by omega) (by decide) ?_
  refine lv_ldc (v := (-1000000002 : Int32)) hx hb hown (hts (.constant RX4 56 (-1000000002)) (List.mem_of_getElem? (i := 5) rfl)) dX4_told_167 ?_
  exact W.iret (v := (-1000000002 : Int32)) hx hb hr (fun t ht hW => ⟨(-1000000002 : Int32), rfl, by first | rfl | trivial | omega | assumption, ht⟩) (fun _ h9 => by cases h9) dX4_told_169
set_option maxHeartbeats 1000000 in
set_option maxRecDepth 100000 in
theorem mt_X4_version (l : Launch) (G : gG) (h : Nat → Nat) (x : oS) (wn : oS) (wa : oS) (w0 : oS) (w1 : oS) (rd : oS) (wr : oS) (z : oS) (jj : Nat → Nat → Int64) (lt : Int64) (nv : Nat) (nl : Nat) (a : Int32) (what : Int32) (hnv : wn.1 0 = nI nv) (hnl : wn.1 5 = nI nl) (hnv24 : nv ≤ 24) (hnl120 : nl ≤ 120) : Met l yX4_version wsX4_version ({ frames := 3, cells := 0, slots := 0, locals := 67 }) (preR G (xw G h x wn wa w0 w1 rd wr z jj lt) [.ref (h 0), .int a, .int what]) (vp_Si (fun r : Int32 => True)) 0 0 (fun _ => False) := by
  refine Met.ofW (cc := cX4_version) (maxL := 3) (ret := (some .int)) (by decide) rfl ?_
  intro p e s m args below meth c s₁ B hml hv
  obtain ⟨ha, hP, hK, hN⟩ := hv
  subst ha
  have hx := B.exec
  have hb := B.bytes
  have hr := B.returns
  have hts := atoms_spec (ws := wsX4_version) B.pre
  have hown : s.vm.findClass RX4 = some m.cls := findClass_of_methodNamed B.named
  have hlocks := B.notSynchronized
  have hiX4 : ∀ w ∈ wsX40, w ∈ wsX4_version := by decide +kernel
  have k10 := hts (.fieldLink RX4 10 "WovenHistory" "now" "LWovenHistory$Weave;") (List.mem_of_getElem? (i := 1) rfl)
  have hiX3 : ∀ w ∈ wsX30, w ∈ wsX4_version := by decide +kernel
  have k111 : (Cond.fieldLinkNest "WovenHistory" 111 "WovenHistory$Weave" "from" "[I" "WovenHistory").before _ s = true := va_Nw.use (A := ([.ref (h 0), .int a, .int what] : List Value).toArray) rfl (hN.1 ("WovenHistory", 111, "WovenHistory$Weave", "from", "[I") (List.mem_of_getElem? (i := 0) rfl))
  have k115 : (Cond.fieldLinkNest "WovenHistory" 115 "WovenHistory$Weave" "changes" "[I" "WovenHistory").before _ s = true := va_Nw.use (A := ([.ref (h 0), .int a, .int what] : List Value).toArray) rfl (hN.1 ("WovenHistory", 115, "WovenHistory$Weave", "changes", "[I") (List.mem_of_getElem? (i := 1) rfl))
  have k118 : (Cond.fieldLinkNest "WovenHistory" 118 "WovenHistory$Weave" "included" "[I" "WovenHistory").before _ s = true := va_Nw.use (A := ([.ref (h 0), .int a, .int what] : List Value).toArray) rfl (hN.1 ("WovenHistory", 118, "WovenHistory$Weave", "included", "[I") (List.mem_of_getElem? (i := 2) rfl))
  have k121 : (Cond.fieldLinkNest "WovenHistory" 121 "WovenHistory$Weave" "excluded" "[I" "WovenHistory").before _ s = true := va_Nw.use (A := ([.ref (h 0), .int a, .int what] : List Value).toArray) rfl (hN.1 ("WovenHistory", 121, "WovenHistory$Weave", "excluded", "[I") (List.mem_of_getElem? (i := 3) rfl))
  have hl := lv_entry ([.ref (h 0), .int a, .int what]) (n := 3) (Nat.le_of_ble_eq_true rfl)
  rw [lg_entry_eq]
  generalize (lg_sl ([.ref (h 0), .int a, .int what]) ++ List.replicate (3 - (lg_sl ([.ref (h 0), .int a, .int what])).length) Slot.unset).toArray = ls at hl ⊢
  have hl : lv_has ls 3 [(0, .ref (h 0)), (1, .int a), (2, .int what)] := hl
  refine lv_aload_n hx hb dX4_version_0 rfl (lv_at hl 0 rfl) ?_
  refine va_get (D := gD G) (ci := 4) (v := .ref (h 10)) (C := RX4) (T := TX4) (N := 9) hx hb hts hiX4 hown hK hP 0 (xp_0 _ _ _ _ _ _ _ _ _ _ _ _) rfl 0 (by decide) k10 (fun _ h9 => h9) rfl dX4_version_1 ?_
  refine lv_iload_n hx hb dX4_version_4 rfl (lv_at hl 1 rfl) ?_
  refine cRi (w := wv G (fun k => h (10 + k)) wn) (As := [.int a]) (rest := []) ⟨hx, hb, hml, hown, hts⟩ (mt_X3_hasVersion l G (fun k => h (10 + k)) wn nv a (hnv) (by first | assumption | omega)) (cwV 1 hts gX4_version_X3_hasVersion rfl rfl rfl (by decide +kernel) ⟨Nat.le_of_ble_eq_true rfl, Nat.le_of_ble_eq_true rfl⟩) hK hN (hP.sub [3, 4, 5, 6, 7, 8, 9, 10] (xf_now _ _ _ _ _ _ _ _ _ _ _ _)) 0 3 rfl rfl rfl hl.1 rfl (Nat.le_of_ble_eq_true rfl) ⟨Nat.zero_le _, Nat.zero_le _⟩ dX4_version_5 (fun r5 hw5 => ?_)
  rcases hw5 with ⟨rfl, a1, ha1, rfl⟩ | ⟨rfl, hna1⟩
  · skip
    refine lv_if_ne (tgt := 14) hx hb dX4_version_8 (by decide) (fun _ => ?_) (fun c9 => absurd c9 (by decide))
    refine lv_iload_n hx hb dX4_version_14 rfl (lv_at hl 2 rfl) ?_
    by_cases q15_0 : what = 0
    · skip
      subst q15_0
      refine lv_tableIn (tgt := 56) hx hb dX4_version_15 (by decide) (by decide) rfl (by decide) ?_
      refine lv_aload_n hx hb dX4_version_56 rfl (lv_at hl 0 rfl) ?_
      refine va_get (D := gD G) (ci := 4) (v := .ref (h 10)) (C := RX4) (T := TX4) (N := 9) hx hb hts hiX4 hown hK hP 0 (xp_0 _ _ _ _ _ _ _ _ _ _ _ _) rfl 0 (by decide) k10 (fun _ h9 => h9) rfl dX4_version_57 ?_
      refine va_getN (D := gD G) (ci := 3) (v := .ref (h 11)) (C := RX3) (T := TX3) (N := 9) hx hb hts hiX3 hown hK hP 3 (xp_3 _ _ _ _ _ _ _ _ _ _ _ _) rfl 1 (by decide) k111 (fun _ h9 => h9) rfl dX4_version_60 ?_
      refine lv_iload_n hx hb dX4_version_63 rfl (lv_at hl 1 rfl) ?_
      refine ialdN (f := wn.2 1) (n := 24) (k := a1) hx hb hK hP 4 (xp_4 _ _ _ _ _ _ _ _ _ _ _ _) rfl (by omega) dX4_version_64 ?_
      exact W.iret (v := (wn.2 1) a1) hx hb hr (fun t ht hW => ⟨(wn.2 1) a1, rfl, by first | rfl | trivial | omega | assumption, ht⟩) (fun _ h9 => by cases h9) dX4_version_65
    by_cases q15_1 : what = 1
    · skip
      subst q15_1
      refine lv_tableIn (tgt := 66) hx hb dX4_version_15 (by decide) (by decide) rfl (by decide) ?_
      refine lv_aload_n hx hb dX4_version_66 rfl (lv_at hl 0 rfl) ?_
      refine va_get (D := gD G) (ci := 4) (v := .ref (h 10)) (C := RX4) (T := TX4) (N := 9) hx hb hts hiX4 hown hK hP 0 (xp_0 _ _ _ _ _ _ _ _ _ _ _ _) rfl 0 (by decide) k10 (fun _ h9 => h9) rfl dX4_version_67 ?_
      refine va_getN (D := gD G) (ci := 3) (v := .ref (h 14)) (C := RX3) (T := TX3) (N := 9) hx hb hts hiX3 hown hK hP 3 (xp_3 _ _ _ _ _ _ _ _ _ _ _ _) rfl 4 (by decide) k115 (fun _ h9 => h9) rfl dX4_version_70 ?_
      refine lv_iload_n hx hb dX4_version_73 rfl (lv_at hl 1 rfl) ?_
      refine ialdN (f := wn.2 4) (n := 24) (k := a1) hx hb hK hP 7 (xp_7 _ _ _ _ _ _ _ _ _ _ _ _) rfl (by omega) dX4_version_74 ?_
      exact W.iret (v := (wn.2 4) a1) hx hb hr (fun t ht hW => ⟨(wn.2 4) a1, rfl, by first | rfl | trivial | omega | assumption, ht⟩) (fun _ h9 => by cases h9) dX4_version_75
    by_cases q15_2 : what = 2
    · skip
      subst q15_2
      refine lv_tableIn (tgt := 76) hx hb dX4_version_15 (by decide) (by decide) rfl (by decide) ?_
      refine lv_aload_n hx hb dX4_version_76 rfl (lv_at hl 0 rfl) ?_
      refine va_get (D := gD G) (ci := 4) (v := .ref (h 10)) (C := RX4) (T := TX4) (N := 9) hx hb hts hiX4 hown hK hP 0 (xp_0 _ _ _ _ _ _ _ _ _ _ _ _) rfl 0 (by decide) k10 (fun _ h9 => h9) rfl dX4_version_77 ?_
      refine va_getN (D := gD G) (ci := 3) (v := .ref (h 12)) (C := RX3) (T := TX3) (N := 9) hx hb hts hiX3 hown hK hP 3 (xp_3 _ _ _ _ _ _ _ _ _ _ _ _) rfl 2 (by decide) k118 (fun _ h9 => h9) rfl dX4_version_80 ?_
      refine lv_iload_n hx hb dX4_version_83 rfl (lv_at hl 1 rfl) ?_
      refine ialdN (f := wn.2 2) (n := 24) (k := a1) hx hb hK hP 5 (xp_5 _ _ _ _ _ _ _ _ _ _ _ _) rfl (by omega) dX4_version_84 ?_
      exact W.iret (v := (wn.2 2) a1) hx hb hr (fun t ht hW => ⟨(wn.2 2) a1, rfl, by first | rfl | trivial | omega | assumption, ht⟩) (fun _ h9 => by cases h9) dX4_version_85
    by_cases q15_3 : what = 3
    · skip
      subst q15_3
      refine lv_tableIn (tgt := 86) hx hb dX4_version_15 (by decide) (by decide) rfl (by decide) ?_
      refine lv_aload_n hx hb dX4_version_86 rfl (lv_at hl 0 rfl) ?_
      refine va_get (D := gD G) (ci := 4) (v := .ref (h 10)) (C := RX4) (T := TX4) (N := 9) hx hb hts hiX4 hown hK hP 0 (xp_0 _ _ _ _ _ _ _ _ _ _ _ _) rfl 0 (by decide) k10 (fun _ h9 => h9) rfl dX4_version_87 ?_
      refine va_getN (D := gD G) (ci := 3) (v := .ref (h 13)) (C := RX3) (T := TX3) (N := 9) hx hb hts hiX3 hown hK hP 3 (xp_3 _ _ _ _ _ _ _ _ _ _ _ _) rfl 3 (by decide) k121 (fun _ h9 => h9) rfl dX4_version_90 ?_
      refine lv_iload_n hx hb dX4_version_93 rfl (lv_at hl 1 rfl) ?_
      refine ialdN (f := wn.2 3) (n := 24) (k := a1) hx hb hK hP 6 (xp_6 _ _ _ _ _ _ _ _ _ _ _ _) rfl (by omega) dX4_version_94 ?_
      exact W.iret (v := (wn.2 3) a1) hx hb hr (fun t ht hW => ⟨(wn.2 3) a1, rfl, by first | rfl | trivial | omega | assumption, ht⟩) (fun _ h9 => by cases h9) dX4_version_95
    by_cases q15_4 : what = 4
    · skip
      subst q15_4
      refine lv_tableIn (tgt := 96) hx hb dX4_version_15 (by decide) (by decide) rfl (by decide) ?_
      refine lv_aload_n hx hb dX4_version_96 rfl (lv_at hl 0 rfl) ?_
      refine va_get (D := gD G) (ci := 4) (v := .ref (h 10)) (C := RX4) (T := TX4) (N := 9) hx hb hts hiX4 hown hK hP 0 (xp_0 _ _ _ _ _ _ _ _ _ _ _ _) rfl 0 (by decide) k10 (fun _ h9 => h9) rfl dX4_version_97 ?_
      refine lv_aload_n hx hb dX4_version_100 rfl (lv_at hl 0 rfl) ?_
      refine va_get (D := gD G) (ci := 4) (v := .ref (h 10)) (C := RX4) (T := TX4) (N := 9) hx hb hts hiX4 hown hK hP 0 (xp_0 _ _ _ _ _ _ _ _ _ _ _ _) rfl 0 (by decide) k10 (fun _ h9 => h9) rfl dX4_version_101 ?_
      refine va_getN (D := gD G) (ci := 3) (v := .ref (h 14)) (C := RX3) (T := TX3) (N := 9) hx hb hts hiX3 hown hK hP 3 (xp_3 _ _ _ _ _ _ _ _ _ _ _ _) rfl 4 (by decide) k115 (fun _ h9 => h9) rfl dX4_version_104 ?_
      refine lv_iload_n hx hb dX4_version_107 rfl (lv_at hl 1 rfl) ?_
      refine ialdN (f := wn.2 4) (n := 24) (k := a1) hx hb hK hP 7 (xp_7 _ _ _ _ _ _ _ _ _ _ _ _) rfl (by omega) dX4_version_108 ?_
      refine cRi (w := wv G (fun k => h (10 + k)) wn) (As := [.int ((wn.2 4) a1)]) (rest := []) ⟨hx, hb, hml, hown, hts⟩ (mt_X3_countStanding l G (fun k => h (10 + k)) wn nl ((wn.2 4) a1) (hnl) (by first | assumption | omega)) (cwV 1 hts gX4_version_X3_countStanding rfl rfl rfl (by decide +kernel) ⟨Nat.le_of_ble_eq_true rfl, Nat.le_of_ble_eq_true rfl⟩) hK hN (hP.sub [3, 4, 5, 6, 7, 8, 9, 10] (xf_now _ _ _ _ _ _ _ _ _ _ _ _)) 0 3 rfl rfl rfl hl.1 rfl (Nat.le_of_ble_eq_true rfl) ⟨Nat.zero_le _, Nat.zero_le _⟩ dX4_version_109 (fun r109 hw109 => ?_)
      obtain rfl := hw109
      have hc109 := cnt_le (sdb (wn.2 7) (wn.2 8) ((wn.2 4) a1)) nl
      exact W.iret (v := nI (cnt (sdb (wn.2 7) (wn.2 8) ((wn.2 4) a1)) nl)) hx hb hr (fun t ht hW => ⟨nI (cnt (sdb (wn.2 7) (wn.2 8) ((wn.2 4) a1)) nl), rfl, by first | rfl | trivial | omega | assumption, ht⟩) (fun _ h9 => by cases h9) dX4_version_112
    by_cases q15_5 : what = 5
    · skip
      subst q15_5
      refine lv_tableIn (tgt := 113) hx hb dX4_version_15 (by decide) (by decide) rfl (by decide) ?_
      refine lv_aload_n hx hb dX4_version_113 rfl (lv_at hl 0 rfl) ?_
      refine va_get (D := gD G) (ci := 4) (v := .ref (h 10)) (C := RX4) (T := TX4) (N := 9) hx hb hts hiX4 hown hK hP 0 (xp_0 _ _ _ _ _ _ _ _ _ _ _ _) rfl 0 (by decide) k10 (fun _ h9 => h9) rfl dX4_version_114 ?_
      refine lv_iload_n hx hb dX4_version_117 rfl (lv_at hl 1 rfl) ?_
      refine cRi (w := wv G (fun k => h (10 + k)) wn) (As := [.int (nI a1)]) (rest := []) ⟨hx, hb, hml, hown, hts⟩ (mt_X3_countBrought l G (fun k => h (10 + k)) wn nl (nI a1) (hnl) (by first | assumption | omega)) (cwV 1 hts gX4_version_X3_countBrought rfl rfl rfl (by decide +kernel) ⟨Nat.le_of_ble_eq_true rfl, Nat.le_of_ble_eq_true rfl⟩) hK hN (hP.sub [3, 4, 5, 6, 7, 8, 9, 10] (xf_now _ _ _ _ _ _ _ _ _ _ _ _)) 0 3 rfl rfl rfl hl.1 rfl (Nat.le_of_ble_eq_true rfl) ⟨Nat.zero_le _, Nat.zero_le _⟩ dX4_version_118 (fun r118 hw118 => ?_)
      exact W.iret (v := r118) hx hb hr (fun t ht hW => ⟨r118, rfl, by first | rfl | trivial | omega | assumption, ht⟩) (fun _ h9 => by cases h9) dX4_version_121
    by_cases q15_6 : what = 6
    · skip
      subst q15_6
      refine lv_tableIn (tgt := 122) hx hb dX4_version_15 (by decide) (by decide) rfl (by decide) ?_
      refine lv_aload_n hx hb dX4_version_122 rfl (lv_at hl 0 rfl) ?_
      refine va_get (D := gD G) (ci := 4) (v := .ref (h 10)) (C := RX4) (T := TX4) (N := 9) hx hb hts hiX4 hown hK hP 0 (xp_0 _ _ _ _ _ _ _ _ _ _ _ _) rfl 0 (by decide) k10 (fun _ h9 => h9) rfl dX4_version_123 ?_
      refine lv_iload_n hx hb dX4_version_126 rfl (lv_at hl 1 rfl) ?_
      refine cRi (w := wv G (fun k => h (10 + k)) wn) (As := [.int (nI a1)]) (rest := []) ⟨hx, hb, hml, hown, hts⟩ (mt_X3_countTaken l G (fun k => h (10 + k)) wn nl (nI a1) (hnl) (by first | assumption | omega)) (cwV 1 hts gX4_version_X3_countTaken rfl rfl rfl (by decide +kernel) ⟨Nat.le_of_ble_eq_true rfl, Nat.le_of_ble_eq_true rfl⟩) hK hN (hP.sub [3, 4, 5, 6, 7, 8, 9, 10] (xf_now _ _ _ _ _ _ _ _ _ _ _ _)) 0 3 rfl rfl rfl hl.1 rfl (Nat.le_of_ble_eq_true rfl) ⟨Nat.zero_le _, Nat.zero_le _⟩ dX4_version_127 (fun r127 hw127 => ?_)
      exact W.iret (v := r127) hx hb hr (fun t ht hW => ⟨r127, rfl, by first | rfl | trivial | omega | assumption, ht⟩) (fun _ h9 => by cases h9) dX4_version_130
    have t15_0 : ¬ what.toInt = 0 := lv_neT q15_0 rfl
    have t15_1 : ¬ what.toInt = 1 := lv_neT q15_1 rfl
    have t15_2 : ¬ what.toInt = 2 := lv_neT q15_2 rfl
    have t15_3 : ¬ what.toInt = 3 := lv_neT q15_3 rfl
    have t15_4 : ¬ what.toInt = 4 := lv_neT q15_4 rfl
    have t15_5 : ¬ what.toInt = 5 := lv_neT q15_5 rfl
    have t15_6 : ¬ what.toInt = 6 := lv_neT q15_6 rfl
    refine lv_tableOut (tgt := 131) hx hb dX4_version_15 (by omega) (by decide) ?_
    refine lv_ldc (v := (-1000000002 : Int32)) hx hb hown (hts (.constant RX4 56 (-1000000002)) (List.mem_of_getElem? (i := 3) rfl)) dX4_version_131 ?_
    exact W.iret (v := (-1000000002 : Int32)) hx hb hr (fun t ht hW => ⟨(-1000000002 : Int32), rfl, by first | rfl | trivial | omega | assumption, ht⟩) (fun _ h9 => by cases h9) dX4_version_133
  · skip
    refine lv_if_ne (tgt := 14) hx hb dX4_version_8 (by decide) (fun c9 => absurd (by decide) c9) (fun _ => ?_)
    refine lv_ldc (v := (-1000000001 : Int32)) hx hb hown (hts (.constant RX4 110 (-1000000001)) (List.mem_of_getElem? (i := 2) rfl)) dX4_version_11 ?_
    exact W.iret (v := (-1000000001 : Int32)) hx hb hr (fun t ht hW => ⟨(-1000000001 : Int32), rfl, by first | rfl | trivial | omega | assumption, ht⟩) (fun _ h9 => by cases h9) dX4_version_13
set_option maxHeartbeats 1000000 in
set_option maxRecDepth 100000 in
theorem mt_X4_line (l : Launch) (G : gG) (h : Nat → Nat) (x : oS) (wn : oS) (wa : oS) (w0 : oS) (w1 : oS) (rd : oS) (wr : oS) (z : oS) (jj : Nat → Nat → Int64) (lt : Int64) (nv : Nat) (nl : Nat) (a : Int32) (what : Int32) (hnv : wn.1 0 = nI nv) (hnl : wn.1 5 = nI nl) (hnv24 : nv ≤ 24) (hnl120 : nl ≤ 120) : Met l yX4_line wsX4_line ({ frames := 2, cells := 0, slots := 0, locals := 45 }) (preR G (xw G h x wn wa w0 w1 rd wr z jj lt) [.ref (h 0), .int a, .int what]) (vp_Si (fun r : Int32 => True)) 0 0 (fun _ => False) := by
  refine Met.ofW (cc := cX4_line) (maxL := 3) (ret := (some .int)) (by decide) rfl ?_
  intro p e s m args below meth c s₁ B hml hv
  obtain ⟨ha, hP, hK, hN⟩ := hv
  subst ha
  have hx := B.exec
  have hb := B.bytes
  have hr := B.returns
  have hts := atoms_spec (ws := wsX4_line) B.pre
  have hown : s.vm.findClass RX4 = some m.cls := findClass_of_methodNamed B.named
  have hlocks := B.notSynchronized
  have hiX4 : ∀ w ∈ wsX40, w ∈ wsX4_line := by decide +kernel
  have k10 := hts (.fieldLink RX4 10 "WovenHistory" "now" "LWovenHistory$Weave;") (List.mem_of_getElem? (i := 1) rfl)
  have hiX3 : ∀ w ∈ wsX30, w ∈ wsX4_line := by decide +kernel
  have k136 : (Cond.fieldLinkNest "WovenHistory" 136 "WovenHistory$Weave" "sign" "[I" "WovenHistory").before _ s = true := va_Nw.use (A := ([.ref (h 0), .int a, .int what] : List Value).toArray) rfl (hN.1 ("WovenHistory", 136, "WovenHistory$Weave", "sign", "[I") (List.mem_of_getElem? (i := 4) rfl))
  have k139 : (Cond.fieldLinkNest "WovenHistory" 139 "WovenHistory$Weave" "brought" "[I" "WovenHistory").before _ s = true := va_Nw.use (A := ([.ref (h 0), .int a, .int what] : List Value).toArray) rfl (hN.1 ("WovenHistory", 139, "WovenHistory$Weave", "brought", "[I") (List.mem_of_getElem? (i := 5) rfl))
  have k142 : (Cond.fieldLinkNest "WovenHistory" 142 "WovenHistory$Weave" "took" "[I" "WovenHistory").before _ s = true := va_Nw.use (A := ([.ref (h 0), .int a, .int what] : List Value).toArray) rfl (hN.1 ("WovenHistory", 142, "WovenHistory$Weave", "took", "[I") (List.mem_of_getElem? (i := 6) rfl))
  have hl := lv_entry ([.ref (h 0), .int a, .int what]) (n := 3) (Nat.le_of_ble_eq_true rfl)
  rw [lg_entry_eq]
  generalize (lg_sl ([.ref (h 0), .int a, .int what]) ++ List.replicate (3 - (lg_sl ([.ref (h 0), .int a, .int what])).length) Slot.unset).toArray = ls at hl ⊢
  have hl : lv_has ls 3 [(0, .ref (h 0)), (1, .int a), (2, .int what)] := hl
  refine lv_aload_n hx hb dX4_line_0 rfl (lv_at hl 0 rfl) ?_
  refine va_get (D := gD G) (ci := 4) (v := .ref (h 10)) (C := RX4) (T := TX4) (N := 9) hx hb hts hiX4 hown hK hP 0 (xp_0 _ _ _ _ _ _ _ _ _ _ _ _) rfl 0 (by decide) k10 (fun _ h9 => h9) rfl dX4_line_1 ?_
  refine lv_iload_n hx hb dX4_line_4 rfl (lv_at hl 1 rfl) ?_
  refine cRi (w := wv G (fun k => h (10 + k)) wn) (As := [.int a]) (rest := []) ⟨hx, hb, hml, hown, hts⟩ (mt_X3_hasLine l G (fun k => h (10 + k)) wn nl a (hnl) (by first | assumption | omega)) (cwV 1 hts gX4_line_X3_hasLine rfl rfl rfl (by decide +kernel) ⟨Nat.le_of_ble_eq_true rfl, Nat.le_of_ble_eq_true rfl⟩) hK hN (hP.sub [3, 4, 5, 6, 7, 8, 9, 10] (xf_now _ _ _ _ _ _ _ _ _ _ _ _)) 0 3 rfl rfl rfl hl.1 rfl (Nat.le_of_ble_eq_true rfl) ⟨Nat.zero_le _, Nat.zero_le _⟩ dX4_line_5 (fun r5 hw5 => ?_)
  rcases hw5 with ⟨rfl, a1, ha1, rfl⟩ | ⟨rfl, hna1⟩
  · skip
    refine lv_if_ne (tgt := 14) hx hb dX4_line_8 (by decide) (fun _ => ?_) (fun c9 => absurd c9 (by decide))
    refine lv_iload_n hx hb dX4_line_14 rfl (lv_at hl 2 rfl) ?_
    by_cases q15_0 : what = 0
    · skip
      subst q15_0
      refine lv_tableIn (tgt := 44) hx hb dX4_line_15 (by decide) (by decide) rfl (by decide) ?_
      refine lv_aload_n hx hb dX4_line_44 rfl (lv_at hl 0 rfl) ?_
      refine va_get (D := gD G) (ci := 4) (v := .ref (h 10)) (C := RX4) (T := TX4) (N := 9) hx hb hts hiX4 hown hK hP 0 (xp_0 _ _ _ _ _ _ _ _ _ _ _ _) rfl 0 (by decide) k10 (fun _ h9 => h9) rfl dX4_line_45 ?_
      refine va_getN (D := gD G) (ci := 3) (v := .ref (h 16)) (C := RX3) (T := TX3) (N := 9) hx hb hts hiX3 hown hK hP 3 (xp_3 _ _ _ _ _ _ _ _ _ _ _ _) rfl 6 (by decide) k136 (fun _ h9 => h9) rfl dX4_line_48 ?_
      refine lv_iload_n hx hb dX4_line_51 rfl (lv_at hl 1 rfl) ?_
      refine ialdN (f := wn.2 6) (n := 120) (k := a1) hx hb hK hP 8 (xp_8 _ _ _ _ _ _ _ _ _ _ _ _) rfl (by omega) dX4_line_52 ?_
      exact W.iret (v := (wn.2 6) a1) hx hb hr (fun t ht hW => ⟨(wn.2 6) a1, rfl, by first | rfl | trivial | omega | assumption, ht⟩) (fun _ h9 => by cases h9) dX4_line_53
    by_cases q15_1 : what = 1
    · skip
      subst q15_1
      refine lv_tableIn (tgt := 54) hx hb dX4_line_15 (by decide) (by decide) rfl (by decide) ?_
      refine lv_aload_n hx hb dX4_line_54 rfl (lv_at hl 0 rfl) ?_
      refine va_get (D := gD G) (ci := 4) (v := .ref (h 10)) (C := RX4) (T := TX4) (N := 9) hx hb hts hiX4 hown hK hP 0 (xp_0 _ _ _ _ _ _ _ _ _ _ _ _) rfl 0 (by decide) k10 (fun _ h9 => h9) rfl dX4_line_55 ?_
      refine va_getN (D := gD G) (ci := 3) (v := .ref (h 17)) (C := RX3) (T := TX3) (N := 9) hx hb hts hiX3 hown hK hP 3 (xp_3 _ _ _ _ _ _ _ _ _ _ _ _) rfl 7 (by decide) k139 (fun _ h9 => h9) rfl dX4_line_58 ?_
      refine lv_iload_n hx hb dX4_line_61 rfl (lv_at hl 1 rfl) ?_
      refine ialdN (f := wn.2 7) (n := 120) (k := a1) hx hb hK hP 9 (xp_9 _ _ _ _ _ _ _ _ _ _ _ _) rfl (by omega) dX4_line_62 ?_
      exact W.iret (v := (wn.2 7) a1) hx hb hr (fun t ht hW => ⟨(wn.2 7) a1, rfl, by first | rfl | trivial | omega | assumption, ht⟩) (fun _ h9 => by cases h9) dX4_line_63
    by_cases q15_2 : what = 2
    · skip
      subst q15_2
      refine lv_tableIn (tgt := 64) hx hb dX4_line_15 (by decide) (by decide) rfl (by decide) ?_
      refine lv_aload_n hx hb dX4_line_64 rfl (lv_at hl 0 rfl) ?_
      refine va_get (D := gD G) (ci := 4) (v := .ref (h 10)) (C := RX4) (T := TX4) (N := 9) hx hb hts hiX4 hown hK hP 0 (xp_0 _ _ _ _ _ _ _ _ _ _ _ _) rfl 0 (by decide) k10 (fun _ h9 => h9) rfl dX4_line_65 ?_
      refine va_getN (D := gD G) (ci := 3) (v := .ref (h 18)) (C := RX3) (T := TX3) (N := 9) hx hb hts hiX3 hown hK hP 3 (xp_3 _ _ _ _ _ _ _ _ _ _ _ _) rfl 8 (by decide) k142 (fun _ h9 => h9) rfl dX4_line_68 ?_
      refine lv_iload_n hx hb dX4_line_71 rfl (lv_at hl 1 rfl) ?_
      refine ialdN (f := wn.2 8) (n := 120) (k := a1) hx hb hK hP 10 (xp_10 _ _ _ _ _ _ _ _ _ _ _ _) rfl (by omega) dX4_line_72 ?_
      exact W.iret (v := (wn.2 8) a1) hx hb hr (fun t ht hW => ⟨(wn.2 8) a1, rfl, by first | rfl | trivial | omega | assumption, ht⟩) (fun _ h9 => by cases h9) dX4_line_73
    by_cases q15_3 : what = 3
    · skip
      subst q15_3
      refine lv_tableIn (tgt := 74) hx hb dX4_line_15 (by decide) (by decide) rfl (by decide) ?_
      refine lv_aload_n hx hb dX4_line_74 rfl (lv_at hl 0 rfl) ?_
      refine va_get (D := gD G) (ci := 4) (v := .ref (h 10)) (C := RX4) (T := TX4) (N := 9) hx hb hts hiX4 hown hK hP 0 (xp_0 _ _ _ _ _ _ _ _ _ _ _ _) rfl 0 (by decide) k10 (fun _ h9 => h9) rfl dX4_line_75 ?_
      refine lv_iload_n hx hb dX4_line_78 rfl (lv_at hl 1 rfl) ?_
      refine cRi (w := wv G (fun k => h (10 + k)) wn) (As := [.int (nI a1)]) (rest := []) ⟨hx, hb, hml, hown, hts⟩ (mt_X3_lifeOf l G (fun k => h (10 + k)) wn nv a1 (hnv) (by first | assumption | omega) (by first | assumption | omega)) (cwV 1 hts gX4_line_X3_lifeOf rfl rfl rfl (by decide +kernel) ⟨Nat.le_of_ble_eq_true rfl, Nat.le_of_ble_eq_true rfl⟩) hK hN (hP.sub [3, 4, 5, 6, 7, 8, 9, 10] (xf_now _ _ _ _ _ _ _ _ _ _ _ _)) 0 3 rfl rfl rfl hl.1 rfl (Nat.le_of_ble_eq_true rfl) ⟨Nat.zero_le _, Nat.zero_le _⟩ dX4_line_79 (fun r79 hw79 => ?_)
      exact W.iret (v := r79) hx hb hr (fun t ht hW => ⟨r79, rfl, by first | rfl | trivial | omega | assumption, ht⟩) (fun _ h9 => by cases h9) dX4_line_82
    have t15_0 : ¬ what.toInt = 0 := lv_neT q15_0 rfl
    have t15_1 : ¬ what.toInt = 1 := lv_neT q15_1 rfl
    have t15_2 : ¬ what.toInt = 2 := lv_neT q15_2 rfl
    have t15_3 : ¬ what.toInt = 3 := lv_neT q15_3 rfl
    refine lv_tableOut (tgt := 83) hx hb dX4_line_15 (by omega) (by decide) ?_
    refine lv_ldc (v := (-1000000002 : Int32)) hx hb hown (hts (.constant RX4 56 (-1000000002)) (List.mem_of_getElem? (i := 3) rfl)) dX4_line_83 ?_
    exact W.iret (v := (-1000000002 : Int32)) hx hb hr (fun t ht hW => ⟨(-1000000002 : Int32), rfl, by first | rfl | trivial | omega | assumption, ht⟩) (fun _ h9 => by cases h9) dX4_line_85
  · skip
    refine lv_if_ne (tgt := 14) hx hb dX4_line_8 (by decide) (fun c9 => absurd (by decide) c9) (fun _ => ?_)
    refine lv_ldc (v := (-1000000001 : Int32)) hx hb hown (hts (.constant RX4 110 (-1000000001)) (List.mem_of_getElem? (i := 2) rfl)) dX4_line_11 ?_
    exact W.iret (v := (-1000000001 : Int32)) hx hb hr (fun t ht hW => ⟨(-1000000001 : Int32), rfl, by first | rfl | trivial | omega | assumption, ht⟩) (fun _ h9 => by cases h9) dX4_line_13
set_option maxHeartbeats 1000000 in
set_option maxRecDepth 100000 in
theorem mt_X4_text (l : Launch) (G : gG) (h : Nat → Nat) (x : oS) (wn : oS) (wa : oS) (w0 : oS) (w1 : oS) (rd : oS) (wr : oS) (z : oS) (jj : Nat → Nat → Int64) (lt : Int64) (nv : Nat) (nl : Nat) (a : Int32) (i : Int32) (what : Int32) (hnv : wn.1 0 = nI nv) (hnl : wn.1 5 = nI nl) (hnv24 : nv ≤ 24) (hnl120 : nl ≤ 120) : Met l yX4_text wsX4_text ({ frames := 2, cells := 0, slots := 0, locals := 46 }) (preR G (xw G h x wn wa w0 w1 rd wr z jj lt) [.ref (h 0), .int a, .int i, .int what]) (vp_Si (fun r : Int32 => True)) 0 0 (fun _ => False) := by
  refine Met.ofW (cc := cX4_text) (maxL := 5) (ret := (some .int)) (by decide) rfl ?_
  intro p e s m args below meth c s₁ B hml hv
  obtain ⟨ha, hP, hK, hN⟩ := hv
  subst ha
  have hx := B.exec
  have hb := B.bytes
  have hr := B.returns
  have hts := atoms_spec (ws := wsX4_text) B.pre
  have hown : s.vm.findClass RX4 = some m.cls := findClass_of_methodNamed B.named
  have hlocks := B.notSynchronized
  have hiX4 : ∀ w ∈ wsX40, w ∈ wsX4_text := by decide +kernel
  have k10 := hts (.fieldLink RX4 10 "WovenHistory" "now" "LWovenHistory$Weave;") (List.mem_of_getElem? (i := 1) rfl)
  have k48 := hts (.fieldLink RX4 48 "WovenHistory" "opened" "Z") (List.mem_of_getElem? (i := 4) rfl)
  have hiX3 : ∀ w ∈ wsX30, w ∈ wsX4_text := by decide +kernel
  have k82 : (Cond.fieldLinkNest "WovenHistory" 82 "WovenHistory$Weave" "versions" "I" "WovenHistory").before _ s = true := va_Nw.use (A := ([.ref (h 0), .int a, .int i, .int what] : List Value).toArray) rfl (hN.1 ("WovenHistory", 82, "WovenHistory$Weave", "versions", "I") (List.mem_of_getElem? (i := 12) rfl))
  have k136 : (Cond.fieldLinkNest "WovenHistory" 136 "WovenHistory$Weave" "sign" "[I" "WovenHistory").before _ s = true := va_Nw.use (A := ([.ref (h 0), .int a, .int i, .int what] : List Value).toArray) rfl (hN.1 ("WovenHistory", 136, "WovenHistory$Weave", "sign", "[I") (List.mem_of_getElem? (i := 4) rfl))
  have k139 : (Cond.fieldLinkNest "WovenHistory" 139 "WovenHistory$Weave" "brought" "[I" "WovenHistory").before _ s = true := va_Nw.use (A := ([.ref (h 0), .int a, .int i, .int what] : List Value).toArray) rfl (hN.1 ("WovenHistory", 139, "WovenHistory$Weave", "brought", "[I") (List.mem_of_getElem? (i := 5) rfl))
  have hl := lv_entry ([.ref (h 0), .int a, .int i, .int what]) (n := 5) (Nat.le_of_ble_eq_true rfl)
  rw [lg_entry_eq]
  generalize (lg_sl ([.ref (h 0), .int a, .int i, .int what]) ++ List.replicate (5 - (lg_sl ([.ref (h 0), .int a, .int i, .int what])).length) Slot.unset).toArray = ls at hl ⊢
  have hl : lv_has ls 5 [(0, .ref (h 0)), (1, .int a), (2, .int i), (3, .int what)] := hl
  refine lv_iload_n hx hb dX4_text_0 rfl (lv_at hl 1 rfl) ?_
  refine lv_iconst (v := (-1 : Int32)) hx hb dX4_text_1 (by decide) ?_
  refine lv_icmp_eq (tgt := 19) hx hb dX4_text_2 (by decide) (fun c2 => ?_) (fun c2 => ?_)
  · skip
    subst c2
    refine lv_iload_n hx hb dX4_text_19 rfl (lv_at hl 2 rfl) ?_
    refine lv_if_lt (tgt := 32) hx hb dX4_text_20 (by decide) (fun c20 => ?_) (fun c20 => ?_)
    · skip
      refine lv_ldc (v := (-1000000002 : Int32)) hx hb hown (hts (.constant RX4 56 (-1000000002)) (List.mem_of_getElem? (i := 3) rfl)) dX4_text_32 ?_
      exact W.iret (v := (-1000000002 : Int32)) hx hb hr (fun t ht hW => ⟨(-1000000002 : Int32), rfl, by first | rfl | trivial | omega | assumption, ht⟩) (fun _ h9 => by cases h9) dX4_text_34
    · skip
      refine lv_iload_n hx hb dX4_text_23 rfl (lv_at hl 3 rfl) ?_
      refine lv_if_lt (tgt := 32) hx hb dX4_text_24 (by decide) (fun c24 => ?_) (fun c24 => ?_)
      · skip
        refine lv_ldc (v := (-1000000002 : Int32)) hx hb hown (hts (.constant RX4 56 (-1000000002)) (List.mem_of_getElem? (i := 3) rfl)) dX4_text_32 ?_
        exact W.iret (v := (-1000000002 : Int32)) hx hb hr (fun t ht hW => ⟨(-1000000002 : Int32), rfl, by first | rfl | trivial | omega | assumption, ht⟩) (fun _ h9 => by cases h9) dX4_text_34
      · skip
        refine lv_iload_n hx hb dX4_text_27 rfl (lv_at hl 3 rfl) ?_
        refine lv_iconst (v := nI 2) hx hb dX4_text_28 (by decide) ?_
        refine lv_icmp_le (tgt := 35) hx hb dX4_text_29 (by decide) (fun c29 => ?_) (fun c29 => ?_)
        · skip
          refine lv_iload_n hx hb dX4_text_35 rfl (lv_at hl 1 rfl) ?_
          refine lv_iconst (v := (-1 : Int32)) hx hb dX4_text_36 (by decide) ?_
          refine lv_icmp_ne (tgt := 50) hx hb dX4_text_37 (by decide) (fun c9 => absurd (by decide) c9) (fun _ => ?_)
          refine lv_aload_n hx hb dX4_text_40 rfl (lv_at hl 0 rfl) ?_
          refine va_get (D := gD G) (ci := 4) (v := .int (x.1 7)) (C := RX4) (T := TX4) (N := 9) hx hb hts hiX4 hown hK hP 0 (xp_0 _ _ _ _ _ _ _ _ _ _ _ _) rfl 7 (by decide) k48 (fun _ h9 => h9) rfl dX4_text_41 ?_
          refine lv_if_ne (tgt := 50) hx hb dX4_text_44 (by decide) (fun c44 => ?_) (fun c44 => ?_)
          · skip
            refine lv_aload_n hx hb dX4_text_50 rfl (lv_at hl 0 rfl) ?_
            refine va_get (D := gD G) (ci := 4) (v := .ref (h 10)) (C := RX4) (T := TX4) (N := 9) hx hb hts hiX4 hown hK hP 0 (xp_0 _ _ _ _ _ _ _ _ _ _ _ _) rfl 0 (by decide) k10 (fun _ h9 => h9) rfl dX4_text_51 ?_
            refine lv_aload_n hx hb dX4_text_54 rfl (lv_at hl 0 rfl) ?_
            refine va_get (D := gD G) (ci := 4) (v := .ref (h 10)) (C := RX4) (T := TX4) (N := 9) hx hb hts hiX4 hown hK hP 0 (xp_0 _ _ _ _ _ _ _ _ _ _ _ _) rfl 0 (by decide) k10 (fun _ h9 => h9) rfl dX4_text_55 ?_
            refine lv_iload_n hx hb dX4_text_58 rfl (lv_at hl 1 rfl) ?_
            refine lv_iconst (v := (-1 : Int32)) hx hb dX4_text_59 (by decide) ?_
            refine lv_icmp_ne (tgt := 73) hx hb dX4_text_60 (by decide) (fun c9 => absurd (by decide) c9) (fun _ => ?_)
            refine lv_aload_n hx hb dX4_text_63 rfl (lv_at hl 0 rfl) ?_
            refine va_get (D := gD G) (ci := 4) (v := .ref (h 10)) (C := RX4) (T := TX4) (N := 9) hx hb hts hiX4 hown hK hP 0 (xp_0 _ _ _ _ _ _ _ _ _ _ _ _) rfl 0 (by decide) k10 (fun _ h9 => h9) rfl dX4_text_64 ?_
            refine va_getN (D := gD G) (ci := 3) (v := .int (wn.1 0)) (C := RX3) (T := TX3) (N := 9) hx hb hts hiX3 hown hK hP 3 (xp_3 _ _ _ _ _ _ _ _ _ _ _ _) rfl 0 (by decide) k82 (fun _ h9 => h9) rfl dX4_text_67 ?_
            refine topE hnv ?_
            refine lv_goto (tgt := 74) hx hb dX4_text_70 (by decide) ?_
            refine cRi (w := wv G (fun k => h (10 + k)) wn) (As := [.int (nI nv)]) (rest := [.ref (h 10)]) ⟨hx, hb, hml, hown, hts⟩ (mt_X3_changesOf l G (fun k => h (10 + k)) wn (nI nv)) (cwV 1 hts gX4_text_X3_changesOf rfl rfl rfl (by decide +kernel) ⟨Nat.le_of_ble_eq_true rfl, Nat.le_of_ble_eq_true rfl⟩) hK hN (hP.sub [3, 4, 5, 6, 7, 8, 9, 10] (xf_now _ _ _ _ _ _ _ _ _ _ _ _)) 0 3 rfl rfl rfl hl.1 rfl (Nat.le_of_ble_eq_true rfl) ⟨Nat.zero_le _, Nat.zero_le _⟩ dX4_text_74 (fun r74 hw74 => ?_)
            refine lv_iload_n hx hb dX4_text_77 rfl (lv_at hl 2 rfl) ?_
            refine cRi (w := wv G (fun k => h (10 + k)) wn) (As := [.int r74, .int i]) (rest := []) ⟨hx, hb, hml, hown, hts⟩ (mt_X3_findStanding l G (fun k => h (10 + k)) wn nl r74 i (hnl) (by first | assumption | omega)) (cwV 2 hts gX4_text_X3_findStanding rfl rfl rfl (by decide +kernel) ⟨Nat.le_of_ble_eq_true rfl, Nat.le_of_ble_eq_true rfl⟩) hK hN (hP.sub [3, 4, 5, 6, 7, 8, 9, 10] (xf_now _ _ _ _ _ _ _ _ _ _ _ _)) 0 3 rfl rfl rfl hl.1 rfl (Nat.le_of_ble_eq_true rfl) ⟨Nat.zero_le _, Nat.zero_le _⟩ dX4_text_78 (fun r78 hw78 => ?_)
            rcases hw78 with ⟨i78, hi78, rfl⟩ | rfl
            · skip
              refine lv_istore (lv' := [(4, .int (nI (i78))), (0, .ref (h 0)), (1, .int (-1 : Int32)), (2, .int i), (3, .int what)]) hx hb dX4_text_81 hl (by decide) rfl (fun ls hl => ?_)
              refine lv_aload_n hx hb dX4_text_83 rfl (lv_at hl 1 rfl) ?_
              refine va_get (D := gD G) (ci := 4) (v := .ref (h 10)) (C := RX4) (T := TX4) (N := 9) hx hb hts hiX4 hown hK hP 0 (xp_0 _ _ _ _ _ _ _ _ _ _ _ _) rfl 0 (by decide) k10 (fun _ h9 => h9) rfl dX4_text_84 ?_
              refine lv_iload hx hb dX4_text_87 (lv_at hl 0 rfl) ?_
              refine cRi (w := wv G (fun k => h (10 + k)) wn) (As := [.int (nI (i78))]) (rest := []) ⟨hx, hb, hml, hown, hts⟩ (mt_X3_hasLine l G (fun k => h (10 + k)) wn nl (nI (i78)) (hnl) (by first | assumption | omega)) (cwV 1 hts gX4_text_X3_hasLine rfl rfl rfl (by decide +kernel) ⟨Nat.le_of_ble_eq_true rfl, Nat.le_of_ble_eq_true rfl⟩) hK hN (hP.sub [3, 4, 5, 6, 7, 8, 9, 10] (xf_now _ _ _ _ _ _ _ _ _ _ _ _)) 0 3 rfl rfl rfl hl.1 rfl (Nat.le_of_ble_eq_true rfl) ⟨Nat.zero_le _, Nat.zero_le _⟩ dX4_text_89 (fun r89 hw89 => ?_)
              rcases hw89 with ⟨rfl, j89, hj89, ej89⟩ | ⟨rfl, hn89⟩
              · skip
                refine lv_if_ne (tgt := 97) hx hb dX4_text_92 (by decide) (fun _ => ?_) (fun c9 => absurd c9 (by decide))
                refine lv_iload_n hx hb dX4_text_97 rfl (lv_at hl 4 rfl) ?_
                by_cases q98_0 : what = 0
                · skip
                  subst q98_0
                  refine lv_lookup (tgt := 124) hx hb dX4_text_98 (by decide) rfl (by decide) ?_
                  refine lv_aload_n hx hb dX4_text_124 rfl (lv_at hl 1 rfl) ?_
                  refine va_get (D := gD G) (ci := 4) (v := .ref (h 10)) (C := RX4) (T := TX4) (N := 9) hx hb hts hiX4 hown hK hP 0 (xp_0 _ _ _ _ _ _ _ _ _ _ _ _) rfl 0 (by decide) k10 (fun _ h9 => h9) rfl dX4_text_125 ?_
                  refine va_getN (D := gD G) (ci := 3) (v := .ref (h 16)) (C := RX3) (T := TX3) (N := 9) hx hb hts hiX3 hown hK hP 3 (xp_3 _ _ _ _ _ _ _ _ _ _ _ _) rfl 6 (by decide) k136 (fun _ h9 => h9) rfl dX4_text_128 ?_
                  refine lv_iload hx hb dX4_text_131 (lv_at hl 0 rfl) ?_
                  refine ialdN (f := wn.2 6) (n := 120) (k := i78) hx hb hK hP 8 (xp_8 _ _ _ _ _ _ _ _ _ _ _ _) rfl (by omega) dX4_text_133 ?_
                  exact W.iret (v := (wn.2 6) i78) hx hb hr (fun t ht hW => ⟨(wn.2 6) i78, rfl, by first | rfl | trivial | omega | assumption, ht⟩) (fun _ h9 => by cases h9) dX4_text_134
                by_cases q98_1 : what = 1
                · skip
                  subst q98_1
                  refine lv_lookup (tgt := 135) hx hb dX4_text_98 (by decide) rfl (by decide) ?_
                  refine lv_aload_n hx hb dX4_text_135 rfl (lv_at hl 1 rfl) ?_
                  refine va_get (D := gD G) (ci := 4) (v := .ref (h 10)) (C := RX4) (T := TX4) (N := 9) hx hb hts hiX4 hown hK hP 0 (xp_0 _ _ _ _ _ _ _ _ _ _ _ _) rfl 0 (by decide) k10 (fun _ h9 => h9) rfl dX4_text_136 ?_
                  refine va_getN (D := gD G) (ci := 3) (v := .ref (h 17)) (C := RX3) (T := TX3) (N := 9) hx hb hts hiX3 hown hK hP 3 (xp_3 _ _ _ _ _ _ _ _ _ _ _ _) rfl 7 (by decide) k139 (fun _ h9 => h9) rfl dX4_text_139 ?_
                  refine lv_iload hx hb dX4_text_142 (lv_at hl 0 rfl) ?_
                  refine ialdN (f := wn.2 7) (n := 120) (k := i78) hx hb hK hP 9 (xp_9 _ _ _ _ _ _ _ _ _ _ _ _) rfl (by omega) dX4_text_144 ?_
                  exact W.iret (v := (wn.2 7) i78) hx hb hr (fun t ht hW => ⟨(wn.2 7) i78, rfl, by first | rfl | trivial | omega | assumption, ht⟩) (fun _ h9 => by cases h9) dX4_text_145
                refine lv_lookup (off := 48) (tgt := 146) hx hb dX4_text_98 (by decide) ((lv_osw q98_0 rfl).trans ((lv_osw q98_1 rfl).trans (rfl))) (by decide) ?_
                refine lv_iload hx hb dX4_text_146 (lv_at hl 0 rfl) ?_
                exact W.iret (v := nI (i78)) hx hb hr (fun t ht hW => ⟨nI (i78), rfl, by first | rfl | trivial | omega | assumption, ht⟩) (fun _ h9 => by cases h9) dX4_text_148
              · skip
                refine lv_if_ne (tgt := 97) hx hb dX4_text_92 (by decide) (fun c9 => absurd (by decide) c9) (fun _ => ?_)
                refine lv_iconst (v := (-1 : Int32)) hx hb dX4_text_95 (by decide) ?_
                exact W.iret (v := (-1 : Int32)) hx hb hr (fun t ht hW => ⟨(-1 : Int32), rfl, by first | rfl | trivial | omega | assumption, ht⟩) (fun _ h9 => by cases h9) dX4_text_96
            · skip
              refine lv_istore (lv' := [(4, .int (-1 : Int32)), (0, .ref (h 0)), (1, .int (-1 : Int32)), (2, .int i), (3, .int what)]) hx hb dX4_text_81 hl (by decide) rfl (fun ls hl => ?_)
              refine lv_aload_n hx hb dX4_text_83 rfl (lv_at hl 1 rfl) ?_
              refine va_get (D := gD G) (ci := 4) (v := .ref (h 10)) (C := RX4) (T := TX4) (N := 9) hx hb hts hiX4 hown hK hP 0 (xp_0 _ _ _ _ _ _ _ _ _ _ _ _) rfl 0 (by decide) k10 (fun _ h9 => h9) rfl dX4_text_84 ?_
              refine lv_iload hx hb dX4_text_87 (lv_at hl 0 rfl) ?_
              refine cRi (w := wv G (fun k => h (10 + k)) wn) (As := [.int (-1 : Int32)]) (rest := []) ⟨hx, hb, hml, hown, hts⟩ (mt_X3_hasLine l G (fun k => h (10 + k)) wn nl (-1 : Int32) (hnl) (by first | assumption | omega)) (cwV 1 hts gX4_text_X3_hasLine rfl rfl rfl (by decide +kernel) ⟨Nat.le_of_ble_eq_true rfl, Nat.le_of_ble_eq_true rfl⟩) hK hN (hP.sub [3, 4, 5, 6, 7, 8, 9, 10] (xf_now _ _ _ _ _ _ _ _ _ _ _ _)) 0 3 rfl rfl rfl hl.1 rfl (Nat.le_of_ble_eq_true rfl) ⟨Nat.zero_le _, Nat.zero_le _⟩ dX4_text_89 (fun r89 hw89 => ?_)
              rcases hw89 with ⟨rfl, j89, hj89, ej89⟩ | ⟨rfl, hn89⟩
              · skip
                exact absurd ej89.symm (nI_nm1 (by omega))
              · skip
                refine lv_if_ne (tgt := 97) hx hb dX4_text_92 (by decide) (fun c9 => absurd (by decide) c9) (fun _ => ?_)
                refine lv_iconst (v := (-1 : Int32)) hx hb dX4_text_95 (by decide) ?_
                exact W.iret (v := (-1 : Int32)) hx hb hr (fun t ht hW => ⟨(-1 : Int32), rfl, by first | rfl | trivial | omega | assumption, ht⟩) (fun _ h9 => by cases h9) dX4_text_96
          · skip
            refine lv_ldc (v := (-1000000003 : Int32)) hx hb hown (hts (.constant RX4 148 (-1000000003)) (List.mem_of_getElem? (i := 5) rfl)) dX4_text_47 ?_
            exact W.iret (v := (-1000000003 : Int32)) hx hb hr (fun t ht hW => ⟨(-1000000003 : Int32), rfl, by first | rfl | trivial | omega | assumption, ht⟩) (fun _ h9 => by cases h9) dX4_text_49
        · skip
          refine lv_ldc (v := (-1000000002 : Int32)) hx hb hown (hts (.constant RX4 56 (-1000000002)) (List.mem_of_getElem? (i := 3) rfl)) dX4_text_32 ?_
          exact W.iret (v := (-1000000002 : Int32)) hx hb hr (fun t ht hW => ⟨(-1000000002 : Int32), rfl, by first | rfl | trivial | omega | assumption, ht⟩) (fun _ h9 => by cases h9) dX4_text_34
  · skip
    refine lv_aload_n hx hb dX4_text_5 rfl (lv_at hl 0 rfl) ?_
    refine va_get (D := gD G) (ci := 4) (v := .ref (h 10)) (C := RX4) (T := TX4) (N := 9) hx hb hts hiX4 hown hK hP 0 (xp_0 _ _ _ _ _ _ _ _ _ _ _ _) rfl 0 (by decide) k10 (fun _ h9 => h9) rfl dX4_text_6 ?_
    refine lv_iload_n hx hb dX4_text_9 rfl (lv_at hl 1 rfl) ?_
    refine cRi (w := wv G (fun k => h (10 + k)) wn) (As := [.int a]) (rest := []) ⟨hx, hb, hml, hown, hts⟩ (mt_X3_hasVersion l G (fun k => h (10 + k)) wn nv a (hnv) (by first | assumption | omega)) (cwV 1 hts gX4_text_X3_hasVersion rfl rfl rfl (by decide +kernel) ⟨Nat.le_of_ble_eq_true rfl, Nat.le_of_ble_eq_true rfl⟩) hK hN (hP.sub [3, 4, 5, 6, 7, 8, 9, 10] (xf_now _ _ _ _ _ _ _ _ _ _ _ _)) 0 3 rfl rfl rfl hl.1 rfl (Nat.le_of_ble_eq_true rfl) ⟨Nat.zero_le _, Nat.zero_le _⟩ dX4_text_10 (fun r10 hw10 => ?_)
    rcases hw10 with ⟨rfl, a1, ha1, rfl⟩ | ⟨rfl, hna1⟩
    · skip
      refine lv_if_ne (tgt := 19) hx hb dX4_text_13 (by decide) (fun _ => ?_) (fun c9 => absurd c9 (by decide))
      refine lv_iload_n hx hb dX4_text_19 rfl (lv_at hl 2 rfl) ?_
      refine lv_if_lt (tgt := 32) hx hb dX4_text_20 (by decide) (fun c20 => ?_) (fun c20 => ?_)
      · skip
        refine lv_ldc (v := (-1000000002 : Int32)) hx hb hown (hts (.constant RX4 56 (-1000000002)) (List.mem_of_getElem? (i := 3) rfl)) dX4_text_32 ?_
        exact W.iret (v := (-1000000002 : Int32)) hx hb hr (fun t ht hW => ⟨(-1000000002 : Int32), rfl, by first | rfl | trivial | omega | assumption, ht⟩) (fun _ h9 => by cases h9) dX4_text_34
      · skip
        refine lv_iload_n hx hb dX4_text_23 rfl (lv_at hl 3 rfl) ?_
        refine lv_if_lt (tgt := 32) hx hb dX4_text_24 (by decide) (fun c24 => ?_) (fun c24 => ?_)
        · skip
          refine lv_ldc (v := (-1000000002 : Int32)) hx hb hown (hts (.constant RX4 56 (-1000000002)) (List.mem_of_getElem? (i := 3) rfl)) dX4_text_32 ?_
          exact W.iret (v := (-1000000002 : Int32)) hx hb hr (fun t ht hW => ⟨(-1000000002 : Int32), rfl, by first | rfl | trivial | omega | assumption, ht⟩) (fun _ h9 => by cases h9) dX4_text_34
        · skip
          refine lv_iload_n hx hb dX4_text_27 rfl (lv_at hl 3 rfl) ?_
          refine lv_iconst (v := nI 2) hx hb dX4_text_28 (by decide) ?_
          refine lv_icmp_le (tgt := 35) hx hb dX4_text_29 (by decide) (fun c29 => ?_) (fun c29 => ?_)
          · skip
            refine lv_iload_n hx hb dX4_text_35 rfl (lv_at hl 1 rfl) ?_
            refine lv_iconst (v := (-1 : Int32)) hx hb dX4_text_36 (by decide) ?_
            refine lv_icmp_ne (tgt := 50) hx hb dX4_text_37 (by decide) (fun _ => ?_) (fun c9 => absurd c9 (nI_nm1 (by omega)))
            refine lv_aload_n hx hb dX4_text_50 rfl (lv_at hl 0 rfl) ?_
            refine va_get (D := gD G) (ci := 4) (v := .ref (h 10)) (C := RX4) (T := TX4) (N := 9) hx hb hts hiX4 hown hK hP 0 (xp_0 _ _ _ _ _ _ _ _ _ _ _ _) rfl 0 (by decide) k10 (fun _ h9 => h9) rfl dX4_text_51 ?_
            refine lv_aload_n hx hb dX4_text_54 rfl (lv_at hl 0 rfl) ?_
            refine va_get (D := gD G) (ci := 4) (v := .ref (h 10)) (C := RX4) (T := TX4) (N := 9) hx hb hts hiX4 hown hK hP 0 (xp_0 _ _ _ _ _ _ _ _ _ _ _ _) rfl 0 (by decide) k10 (fun _ h9 => h9) rfl dX4_text_55 ?_
            refine lv_iload_n hx hb dX4_text_58 rfl (lv_at hl 1 rfl) ?_
            refine lv_iconst (v := (-1 : Int32)) hx hb dX4_text_59 (by decide) ?_
            refine lv_icmp_ne (tgt := 73) hx hb dX4_text_60 (by decide) (fun _ => ?_) (fun c9 => absurd c9 (nI_nm1 (by omega)))
            refine lv_iload_n hx hb dX4_text_73 rfl (lv_at hl 1 rfl) ?_
            refine cRi (w := wv G (fun k => h (10 + k)) wn) (As := [.int (nI a1)]) (rest := [.ref (h 10)]) ⟨hx, hb, hml, hown, hts⟩ (mt_X3_changesOf l G (fun k => h (10 + k)) wn (nI a1)) (cwV 1 hts gX4_text_X3_changesOf rfl rfl rfl (by decide +kernel) ⟨Nat.le_of_ble_eq_true rfl, Nat.le_of_ble_eq_true rfl⟩) hK hN (hP.sub [3, 4, 5, 6, 7, 8, 9, 10] (xf_now _ _ _ _ _ _ _ _ _ _ _ _)) 0 3 rfl rfl rfl hl.1 rfl (Nat.le_of_ble_eq_true rfl) ⟨Nat.zero_le _, Nat.zero_le _⟩ dX4_text_74 (fun r74 hw74 => ?_)
            refine lv_iload_n hx hb dX4_text_77 rfl (lv_at hl 2 rfl) ?_
            refine cRi (w := wv G (fun k => h (10 + k)) wn) (As := [.int r74, .int i]) (rest := []) ⟨hx, hb, hml, hown, hts⟩ (mt_X3_findStanding l G (fun k => h (10 + k)) wn nl r74 i (hnl) (by first | assumption | omega)) (cwV 2 hts gX4_text_X3_findStanding rfl rfl rfl (by decide +kernel) ⟨Nat.le_of_ble_eq_true rfl, Nat.le_of_ble_eq_true rfl⟩) hK hN (hP.sub [3, 4, 5, 6, 7, 8, 9, 10] (xf_now _ _ _ _ _ _ _ _ _ _ _ _)) 0 3 rfl rfl rfl hl.1 rfl (Nat.le_of_ble_eq_true rfl) ⟨Nat.zero_le _, Nat.zero_le _⟩ dX4_text_78 (fun r78 hw78 => ?_)
            rcases hw78 with ⟨i78, hi78, rfl⟩ | rfl
            · skip
              refine lv_istore (lv' := [(4, .int (nI (i78))), (0, .ref (h 0)), (1, .int (nI a1)), (2, .int i), (3, .int what)]) hx hb dX4_text_81 hl (by decide) rfl (fun ls hl => ?_)
              refine lv_aload_n hx hb dX4_text_83 rfl (lv_at hl 1 rfl) ?_
              refine va_get (D := gD G) (ci := 4) (v := .ref (h 10)) (C := RX4) (T := TX4) (N := 9) hx hb hts hiX4 hown hK hP 0 (xp_0 _ _ _ _ _ _ _ _ _ _ _ _) rfl 0 (by decide) k10 (fun _ h9 => h9) rfl dX4_text_84 ?_
              refine lv_iload hx hb dX4_text_87 (lv_at hl 0 rfl) ?_
              refine cRi (w := wv G (fun k => h (10 + k)) wn) (As := [.int (nI (i78))]) (rest := []) ⟨hx, hb, hml, hown, hts⟩ (mt_X3_hasLine l G (fun k => h (10 + k)) wn nl (nI (i78)) (hnl) (by first | assumption | omega)) (cwV 1 hts gX4_text_X3_hasLine rfl rfl rfl (by decide +kernel) ⟨Nat.le_of_ble_eq_true rfl, Nat.le_of_ble_eq_true rfl⟩) hK hN (hP.sub [3, 4, 5, 6, 7, 8, 9, 10] (xf_now _ _ _ _ _ _ _ _ _ _ _ _)) 0 3 rfl rfl rfl hl.1 rfl (Nat.le_of_ble_eq_true rfl) ⟨Nat.zero_le _, Nat.zero_le _⟩ dX4_text_89 (fun r89 hw89 => ?_)
              rcases hw89 with ⟨rfl, j89, hj89, ej89⟩ | ⟨rfl, hn89⟩
              · skip
                refine lv_if_ne (tgt := 97) hx hb dX4_text_92 (by decide) (fun _ => ?_) (fun c9 => absurd c9 (by decide))
                refine lv_iload_n hx hb dX4_text_97 rfl (lv_at hl 4 rfl) ?_
                by_cases q98_0 : what = 0
                · skip
                  subst q98_0
                  refine lv_lookup (tgt := 124) hx hb dX4_text_98 (by decide) rfl (by decide) ?_
                  refine lv_aload_n hx hb dX4_text_124 rfl (lv_at hl 1 rfl) ?_
                  refine va_get (D := gD G) (ci := 4) (v := .ref (h 10)) (C := RX4) (T := TX4) (N := 9) hx hb hts hiX4 hown hK hP 0 (xp_0 _ _ _ _ _ _ _ _ _ _ _ _) rfl 0 (by decide) k10 (fun _ h9 => h9) rfl dX4_text_125 ?_
                  refine va_getN (D := gD G) (ci := 3) (v := .ref (h 16)) (C := RX3) (T := TX3) (N := 9) hx hb hts hiX3 hown hK hP 3 (xp_3 _ _ _ _ _ _ _ _ _ _ _ _) rfl 6 (by decide) k136 (fun _ h9 => h9) rfl dX4_text_128 ?_
                  refine lv_iload hx hb dX4_text_131 (lv_at hl 0 rfl) ?_
                  refine ialdN (f := wn.2 6) (n := 120) (k := i78) hx hb hK hP 8 (xp_8 _ _ _ _ _ _ _ _ _ _ _ _) rfl (by omega) dX4_text_133 ?_
                  exact W.iret (v := (wn.2 6) i78) hx hb hr (fun t ht hW => ⟨(wn.2 6) i78, rfl, by first | rfl | trivial | omega | assumption, ht⟩) (fun _ h9 => by cases h9) dX4_text_134
                by_cases q98_1 : what = 1
                · skip
                  subst q98_1
                  refine lv_lookup (tgt := 135) hx hb dX4_text_98 (by decide) rfl (by decide) ?_
                  refine lv_aload_n hx hb dX4_text_135 rfl (lv_at hl 1 rfl) ?_
                  refine va_get (D := gD G) (ci := 4) (v := .ref (h 10)) (C := RX4) (T := TX4) (N := 9) hx hb hts hiX4 hown hK hP 0 (xp_0 _ _ _ _ _ _ _ _ _ _ _ _) rfl 0 (by decide) k10 (fun _ h9 => h9) rfl dX4_text_136 ?_
                  refine va_getN (D := gD G) (ci := 3) (v := .ref (h 17)) (C := RX3) (T := TX3) (N := 9) hx hb hts hiX3 hown hK hP 3 (xp_3 _ _ _ _ _ _ _ _ _ _ _ _) rfl 7 (by decide) k139 (fun _ h9 => h9) rfl dX4_text_139 ?_
                  refine lv_iload hx hb dX4_text_142 (lv_at hl 0 rfl) ?_
                  refine ialdN (f := wn.2 7) (n := 120) (k := i78) hx hb hK hP 9 (xp_9 _ _ _ _ _ _ _ _ _ _ _ _) rfl (by omega) dX4_text_144 ?_
                  exact W.iret (v := (wn.2 7) i78) hx hb hr (fun t ht hW => ⟨(wn.2 7) i78, rfl, by first | rfl | trivial | omega | assumption, ht⟩) (fun _ h9 => by cases h9) dX4_text_145
                refine lv_lookup (off := 48) (tgt := 146) hx hb dX4_text_98 (by decide) ((lv_osw q98_0 rfl).trans ((lv_osw q98_1 rfl).trans (rfl))) (by decide) ?_
                refine lv_iload hx hb dX4_text_146 (lv_at hl 0 rfl) ?_
                exact W.iret (v := nI (i78)) hx hb hr (fun t ht hW => ⟨nI (i78), rfl, by first | rfl | trivial | omega | assumption, ht⟩) (fun _ h9 => by cases h9) dX4_text_148
              · skip
                refine lv_if_ne (tgt := 97) hx hb dX4_text_92 (by decide) (fun c9 => absurd (by decide) c9) (fun _ => ?_)
                refine lv_iconst (v := (-1 : Int32)) hx hb dX4_text_95 (by decide) ?_
                exact W.iret (v := (-1 : Int32)) hx hb hr (fun t ht hW => ⟨(-1 : Int32), rfl, by first | rfl | trivial | omega | assumption, ht⟩) (fun _ h9 => by cases h9) dX4_text_96
            · skip
              refine lv_istore (lv' := [(4, .int (-1 : Int32)), (0, .ref (h 0)), (1, .int (nI a1)), (2, .int i), (3, .int what)]) hx hb dX4_text_81 hl (by decide) rfl (fun ls hl => ?_)
              refine lv_aload_n hx hb dX4_text_83 rfl (lv_at hl 1 rfl) ?_
              refine va_get (D := gD G) (ci := 4) (v := .ref (h 10)) (C := RX4) (T := TX4) (N := 9) hx hb hts hiX4 hown hK hP 0 (xp_0 _ _ _ _ _ _ _ _ _ _ _ _) rfl 0 (by decide) k10 (fun _ h9 => h9) rfl dX4_text_84 ?_
              refine lv_iload hx hb dX4_text_87 (lv_at hl 0 rfl) ?_
              refine cRi (w := wv G (fun k => h (10 + k)) wn) (As := [.int (-1 : Int32)]) (rest := []) ⟨hx, hb, hml, hown, hts⟩ (mt_X3_hasLine l G (fun k => h (10 + k)) wn nl (-1 : Int32) (hnl) (by first | assumption | omega)) (cwV 1 hts gX4_text_X3_hasLine rfl rfl rfl (by decide +kernel) ⟨Nat.le_of_ble_eq_true rfl, Nat.le_of_ble_eq_true rfl⟩) hK hN (hP.sub [3, 4, 5, 6, 7, 8, 9, 10] (xf_now _ _ _ _ _ _ _ _ _ _ _ _)) 0 3 rfl rfl rfl hl.1 rfl (Nat.le_of_ble_eq_true rfl) ⟨Nat.zero_le _, Nat.zero_le _⟩ dX4_text_89 (fun r89 hw89 => ?_)
              rcases hw89 with ⟨rfl, j89, hj89, ej89⟩ | ⟨rfl, hn89⟩
              · skip
                exact absurd ej89.symm (nI_nm1 (by omega))
              · skip
                refine lv_if_ne (tgt := 97) hx hb dX4_text_92 (by decide) (fun c9 => absurd (by decide) c9) (fun _ => ?_)
                refine lv_iconst (v := (-1 : Int32)) hx hb dX4_text_95 (by decide) ?_
                exact W.iret (v := (-1 : Int32)) hx hb hr (fun t ht hW => ⟨(-1 : Int32), rfl, by first | rfl | trivial | omega | assumption, ht⟩) (fun _ h9 => by cases h9) dX4_text_96
          · skip
            refine lv_ldc (v := (-1000000002 : Int32)) hx hb hown (hts (.constant RX4 56 (-1000000002)) (List.mem_of_getElem? (i := 3) rfl)) dX4_text_32 ?_
            exact W.iret (v := (-1000000002 : Int32)) hx hb hr (fun t ht hW => ⟨(-1000000002 : Int32), rfl, by first | rfl | trivial | omega | assumption, ht⟩) (fun _ h9 => by cases h9) dX4_text_34
    · skip
      refine lv_if_ne (tgt := 19) hx hb dX4_text_13 (by decide) (fun c9 => absurd (by decide) c9) (fun _ => ?_)
      refine lv_ldc (v := (-1000000001 : Int32)) hx hb hown (hts (.constant RX4 110 (-1000000001)) (List.mem_of_getElem? (i := 2) rfl)) dX4_text_16 ?_
      exact W.iret (v := (-1000000001 : Int32)) hx hb hr (fun t ht hW => ⟨(-1000000001 : Int32), rfl, by first | rfl | trivial | omega | assumption, ht⟩) (fun _ h9 => by cases h9) dX4_text_18
set_option maxHeartbeats 1000000 in
set_option maxRecDepth 100000 in
theorem mt_X4_share (l : Launch) (G : gG) (h : Nat → Nat) (x : oS) (wn : oS) (wa : oS) (w0 : oS) (w1 : oS) (rd : oS) (wr : oS) (z : oS) (jj : Nat → Nat → Int64) (lt : Int64) (nv : Nat) (nl : Nat) (a : Int32) (b : Int32) (hnv : wn.1 0 = nI nv) (hnl : wn.1 5 = nI nl) (hnv24 : nv ≤ 24) (hnl120 : nl ≤ 120) : Met l yX4_share wsX4_share ({ frames := 2, cells := 0, slots := 0, locals := 46 }) (preR G (xw G h x wn wa w0 w1 rd wr z jj lt) [.ref (h 0), .int a, .int b]) (vp_Si (fun r : Int32 => True)) 0 0 (fun _ => False) := by
  refine Met.ofW (cc := cX4_share) (maxL := 3) (ret := (some .int)) (by decide) rfl ?_
  intro p e s m args below meth c s₁ B hml hv
  obtain ⟨ha, hP, hK, hN⟩ := hv
  subst ha
  have hx := B.exec
  have hb := B.bytes
  have hr := B.returns
  have hts := atoms_spec (ws := wsX4_share) B.pre
  have hown : s.vm.findClass RX4 = some m.cls := findClass_of_methodNamed B.named
  have hlocks := B.notSynchronized
  have hiX4 : ∀ w ∈ wsX40, w ∈ wsX4_share := by decide +kernel
  have k10 := hts (.fieldLink RX4 10 "WovenHistory" "now" "LWovenHistory$Weave;") (List.mem_of_getElem? (i := 1) rfl)
  have hiX3 : ∀ w ∈ wsX30, w ∈ wsX4_share := by decide +kernel
  have k115 : (Cond.fieldLinkNest "WovenHistory" 115 "WovenHistory$Weave" "changes" "[I" "WovenHistory").before _ s = true := va_Nw.use (A := ([.ref (h 0), .int a, .int b] : List Value).toArray) rfl (hN.1 ("WovenHistory", 115, "WovenHistory$Weave", "changes", "[I") (List.mem_of_getElem? (i := 1) rfl))
  have hl := lv_entry ([.ref (h 0), .int a, .int b]) (n := 3) (Nat.le_of_ble_eq_true rfl)
  rw [lg_entry_eq]
  generalize (lg_sl ([.ref (h 0), .int a, .int b]) ++ List.replicate (3 - (lg_sl ([.ref (h 0), .int a, .int b])).length) Slot.unset).toArray = ls at hl ⊢
  have hl : lv_has ls 3 [(0, .ref (h 0)), (1, .int a), (2, .int b)] := hl
  refine lv_aload_n hx hb dX4_share_0 rfl (lv_at hl 0 rfl) ?_
  refine va_get (D := gD G) (ci := 4) (v := .ref (h 10)) (C := RX4) (T := TX4) (N := 9) hx hb hts hiX4 hown hK hP 0 (xp_0 _ _ _ _ _ _ _ _ _ _ _ _) rfl 0 (by decide) k10 (fun _ h9 => h9) rfl dX4_share_1 ?_
  refine lv_iload_n hx hb dX4_share_4 rfl (lv_at hl 1 rfl) ?_
  refine cRi (w := wv G (fun k => h (10 + k)) wn) (As := [.int a]) (rest := []) ⟨hx, hb, hml, hown, hts⟩ (mt_X3_hasVersion l G (fun k => h (10 + k)) wn nv a (hnv) (by first | assumption | omega)) (cwV 1 hts gX4_share_X3_hasVersion rfl rfl rfl (by decide +kernel) ⟨Nat.le_of_ble_eq_true rfl, Nat.le_of_ble_eq_true rfl⟩) hK hN (hP.sub [3, 4, 5, 6, 7, 8, 9, 10] (xf_now _ _ _ _ _ _ _ _ _ _ _ _)) 0 3 rfl rfl rfl hl.1 rfl (Nat.le_of_ble_eq_true rfl) ⟨Nat.zero_le _, Nat.zero_le _⟩ dX4_share_5 (fun r5 hw5 => ?_)
  rcases hw5 with ⟨rfl, a1, ha1, rfl⟩ | ⟨rfl, hna1⟩
  · skip
    refine lv_if_eq (tgt := 22) hx hb dX4_share_8 (by decide) (fun c9 => absurd c9 (by decide)) (fun _ => ?_)
    refine lv_aload_n hx hb dX4_share_11 rfl (lv_at hl 0 rfl) ?_
    refine va_get (D := gD G) (ci := 4) (v := .ref (h 10)) (C := RX4) (T := TX4) (N := 9) hx hb hts hiX4 hown hK hP 0 (xp_0 _ _ _ _ _ _ _ _ _ _ _ _) rfl 0 (by decide) k10 (fun _ h9 => h9) rfl dX4_share_12 ?_
    refine lv_iload_n hx hb dX4_share_15 rfl (lv_at hl 2 rfl) ?_
    refine cRi (w := wv G (fun k => h (10 + k)) wn) (As := [.int b]) (rest := []) ⟨hx, hb, hml, hown, hts⟩ (mt_X3_hasVersion l G (fun k => h (10 + k)) wn nv b (hnv) (by first | assumption | omega)) (cwV 1 hts gX4_share_X3_hasVersion rfl rfl rfl (by decide +kernel) ⟨Nat.le_of_ble_eq_true rfl, Nat.le_of_ble_eq_true rfl⟩) hK hN (hP.sub [3, 4, 5, 6, 7, 8, 9, 10] (xf_now _ _ _ _ _ _ _ _ _ _ _ _)) 0 3 rfl rfl rfl hl.1 rfl (Nat.le_of_ble_eq_true rfl) ⟨Nat.zero_le _, Nat.zero_le _⟩ dX4_share_16 (fun r16 hw16 => ?_)
    rcases hw16 with ⟨rfl, j16, hj16, ej16⟩ | ⟨rfl, hn16⟩
    · skip
      refine lv_if_ne (tgt := 25) hx hb dX4_share_19 (by decide) (fun _ => ?_) (fun c9 => absurd c9 (by decide))
      refine lv_aload_n hx hb dX4_share_25 rfl (lv_at hl 0 rfl) ?_
      refine va_get (D := gD G) (ci := 4) (v := .ref (h 10)) (C := RX4) (T := TX4) (N := 9) hx hb hts hiX4 hown hK hP 0 (xp_0 _ _ _ _ _ _ _ _ _ _ _ _) rfl 0 (by decide) k10 (fun _ h9 => h9) rfl dX4_share_26 ?_
      refine lv_aload_n hx hb dX4_share_29 rfl (lv_at hl 0 rfl) ?_
      refine va_get (D := gD G) (ci := 4) (v := .ref (h 10)) (C := RX4) (T := TX4) (N := 9) hx hb hts hiX4 hown hK hP 0 (xp_0 _ _ _ _ _ _ _ _ _ _ _ _) rfl 0 (by decide) k10 (fun _ h9 => h9) rfl dX4_share_30 ?_
      refine va_getN (D := gD G) (ci := 3) (v := .ref (h 14)) (C := RX3) (T := TX3) (N := 9) hx hb hts hiX3 hown hK hP 3 (xp_3 _ _ _ _ _ _ _ _ _ _ _ _) rfl 4 (by decide) k115 (fun _ h9 => h9) rfl dX4_share_33 ?_
      refine lv_iload_n hx hb dX4_share_36 rfl (lv_at hl 1 rfl) ?_
      refine ialdN (f := wn.2 4) (n := 24) (k := a1) hx hb hK hP 7 (xp_7 _ _ _ _ _ _ _ _ _ _ _ _) rfl (by omega) dX4_share_37 ?_
      refine lv_iload_n hx hb dX4_share_38 rfl (lv_at hl 2 rfl) ?_
      refine cRi (w := wv G (fun k => h (10 + k)) wn) (As := [.int ((wn.2 4) a1), .int b]) (rest := []) ⟨hx, hb, hml, hown, hts⟩ (mt_X3_countShare l G (fun k => h (10 + k)) wn nl ((wn.2 4) a1) b (hnl) (by first | assumption | omega)) (cwV 2 hts gX4_share_X3_countShare rfl rfl rfl (by decide +kernel) ⟨Nat.le_of_ble_eq_true rfl, Nat.le_of_ble_eq_true rfl⟩) hK hN (hP.sub [3, 4, 5, 6, 7, 8, 9, 10] (xf_now _ _ _ _ _ _ _ _ _ _ _ _)) 0 3 rfl rfl rfl hl.1 rfl (Nat.le_of_ble_eq_true rfl) ⟨Nat.zero_le _, Nat.zero_le _⟩ dX4_share_39 (fun r39 hw39 => ?_)
      exact W.iret (v := r39) hx hb hr (fun t ht hW => ⟨r39, rfl, by first | rfl | trivial | omega | assumption, ht⟩) (fun _ h9 => by cases h9) dX4_share_42
    · skip
      refine lv_if_ne (tgt := 25) hx hb dX4_share_19 (by decide) (fun c9 => absurd (by decide) c9) (fun _ => ?_)
      refine lv_ldc (v := (-1000000001 : Int32)) hx hb hown (hts (.constant RX4 110 (-1000000001)) (List.mem_of_getElem? (i := 2) rfl)) dX4_share_22 ?_
      exact W.iret (v := (-1000000001 : Int32)) hx hb hr (fun t ht hW => ⟨(-1000000001 : Int32), rfl, by first | rfl | trivial | omega | assumption, ht⟩) (fun _ h9 => by cases h9) dX4_share_24
  · skip
    refine lv_if_eq (tgt := 22) hx hb dX4_share_8 (by decide) (fun _ => ?_) (fun c9 => absurd (by decide) c9)
    refine lv_ldc (v := (-1000000001 : Int32)) hx hb hown (hts (.constant RX4 110 (-1000000001)) (List.mem_of_getElem? (i := 2) rfl)) dX4_share_22 ?_
    exact W.iret (v := (-1000000001 : Int32)) hx hb hr (fun t ht hW => ⟨(-1000000001 : Int32), rfl, by first | rfl | trivial | omega | assumption, ht⟩) (fun _ h9 => by cases h9) dX4_share_24
set_option maxHeartbeats 1000000 in
set_option maxRecDepth 100000 in
theorem mt_X4_alike (l : Launch) (G : gG) (h : Nat → Nat) (x : oS) (wn : oS) (wa : oS) (w0 : oS) (w1 : oS) (rd : oS) (wr : oS) (z : oS) (jj : Nat → Nat → Int64) (lt : Int64) (nv : Nat) (nl : Nat) (a : Int32) (b : Int32) (what : Int32) (hnv : wn.1 0 = nI nv) (hnl : wn.1 5 = nI nl) (hnv24 : nv ≤ 24) (hnl120 : nl ≤ 120) : Met l yX4_alike wsX4_alike ({ frames := 3, cells := 0, slots := 0, locals := 67 }) (preR G (xw G h x wn wa w0 w1 rd wr z jj lt) [.ref (h 0), .int a, .int b, .int what]) (vp_Si (fun r : Int32 => True)) 0 0 (fun _ => False) := by
  refine Met.ofW (cc := cX4_alike) (maxL := 7) (ret := (some .int)) (by decide) rfl ?_
  intro p e s m args below meth c s₁ B hml hv
  obtain ⟨ha, hP, hK, hN⟩ := hv
  subst ha
  have hx := B.exec
  have hb := B.bytes
  have hr := B.returns
  have hts := atoms_spec (ws := wsX4_alike) B.pre
  have hown : s.vm.findClass RX4 = some m.cls := findClass_of_methodNamed B.named
  have hlocks := B.notSynchronized
  have hiX4 : ∀ w ∈ wsX40, w ∈ wsX4_alike := by decide +kernel
  have k10 := hts (.fieldLink RX4 10 "WovenHistory" "now" "LWovenHistory$Weave;") (List.mem_of_getElem? (i := 2) rfl)
  have hiX3 : ∀ w ∈ wsX30, w ∈ wsX4_alike := by decide +kernel
  have k115 : (Cond.fieldLinkNest "WovenHistory" 115 "WovenHistory$Weave" "changes" "[I" "WovenHistory").before _ s = true := va_Nw.use (A := ([.ref (h 0), .int a, .int b, .int what] : List Value).toArray) rfl (hN.1 ("WovenHistory", 115, "WovenHistory$Weave", "changes", "[I") (List.mem_of_getElem? (i := 1) rfl))
  have hl := lv_entry ([.ref (h 0), .int a, .int b, .int what]) (n := 7) (Nat.le_of_ble_eq_true rfl)
  rw [lg_entry_eq]
  generalize (lg_sl ([.ref (h 0), .int a, .int b, .int what]) ++ List.replicate (7 - (lg_sl ([.ref (h 0), .int a, .int b, .int what])).length) Slot.unset).toArray = ls at hl ⊢
  have hl : lv_has ls 7 [(0, .ref (h 0)), (1, .int a), (2, .int b), (3, .int what)] := hl
  refine lv_aload_n hx hb dX4_alike_0 rfl (lv_at hl 0 rfl) ?_
  refine lv_iload_n hx hb dX4_alike_1 rfl (lv_at hl 1 rfl) ?_
  refine lv_iload_n hx hb dX4_alike_2 rfl (lv_at hl 2 rfl) ?_
  refine cRi (w := xw G h x wn wa w0 w1 rd wr z jj lt) (As := [.int a, .int b]) (rest := []) ⟨hx, hb, hml, hown, hts⟩ (mt_X4_areTwoVersions l G h x wn wa w0 w1 rd wr z jj lt nv nl a b (hnv) (hnl) (by first | assumption | omega) (by first | assumption | omega)) (cwV 2 hts gX4_alike_X4_areTwoVersions rfl rfl rfl (by decide +kernel) ⟨Nat.le_of_ble_eq_true rfl, Nat.le_of_ble_eq_true rfl⟩) hK hN hP 0 4 rfl rfl rfl hl.1 rfl (Nat.le_of_ble_eq_true rfl) ⟨Nat.zero_le _, Nat.zero_le _⟩ dX4_alike_3 (fun r3 hw3 => ?_)
  rcases hw3 with ⟨rfl, ⟨a1, ha1, rfl⟩, b1, hb1, rfl⟩ | rfl
  · skip
    refine lv_if_ne (tgt := 12) hx hb dX4_alike_6 (by decide) (fun _ => ?_) (fun c9 => absurd c9 (by decide))
    refine lv_aload_n hx hb dX4_alike_12 rfl (lv_at hl 0 rfl) ?_
    refine va_get (D := gD G) (ci := 4) (v := .ref (h 10)) (C := RX4) (T := TX4) (N := 9) hx hb hts hiX4 hown hK hP 0 (xp_0 _ _ _ _ _ _ _ _ _ _ _ _) rfl 0 (by decide) k10 (fun _ h9 => h9) rfl dX4_alike_13 ?_
    refine va_getN (D := gD G) (ci := 3) (v := .ref (h 14)) (C := RX3) (T := TX3) (N := 9) hx hb hts hiX3 hown hK hP 3 (xp_3 _ _ _ _ _ _ _ _ _ _ _ _) rfl 4 (by decide) k115 (fun _ h9 => h9) rfl dX4_alike_16 ?_
    refine lv_iload_n hx hb dX4_alike_19 rfl (lv_at hl 1 rfl) ?_
    refine ialdN (f := wn.2 4) (n := 24) (k := a1) hx hb hK hP 7 (xp_7 _ _ _ _ _ _ _ _ _ _ _ _) rfl (by omega) dX4_alike_20 ?_
    refine lv_istore (lv' := [(4, .int ((wn.2 4) a1)), (0, .ref (h 0)), (1, .int (nI a1)), (2, .int (nI b1)), (3, .int what)]) hx hb dX4_alike_21 hl (by decide) rfl (fun ls hl => ?_)
    refine lv_aload_n hx hb dX4_alike_23 rfl (lv_at hl 1 rfl) ?_
    refine va_get (D := gD G) (ci := 4) (v := .ref (h 10)) (C := RX4) (T := TX4) (N := 9) hx hb hts hiX4 hown hK hP 0 (xp_0 _ _ _ _ _ _ _ _ _ _ _ _) rfl 0 (by decide) k10 (fun _ h9 => h9) rfl dX4_alike_24 ?_
    refine va_getN (D := gD G) (ci := 3) (v := .ref (h 14)) (C := RX3) (T := TX3) (N := 9) hx hb hts hiX3 hown hK hP 3 (xp_3 _ _ _ _ _ _ _ _ _ _ _ _) rfl 4 (by decide) k115 (fun _ h9 => h9) rfl dX4_alike_27 ?_
    refine lv_iload_n hx hb dX4_alike_30 rfl (lv_at hl 3 rfl) ?_
    refine ialdN (f := wn.2 4) (n := 24) (k := b1) hx hb hK hP 7 (xp_7 _ _ _ _ _ _ _ _ _ _ _ _) rfl (by omega) dX4_alike_31 ?_
    refine lv_istore (lv' := [(5, .int ((wn.2 4) b1)), (4, .int ((wn.2 4) a1)), (0, .ref (h 0)), (1, .int (nI a1)), (2, .int (nI b1)), (3, .int what)]) hx hb dX4_alike_32 hl (by decide) rfl (fun ls hl => ?_)
    refine lv_aload_n hx hb dX4_alike_34 rfl (lv_at hl 2 rfl) ?_
    refine va_get (D := gD G) (ci := 4) (v := .ref (h 10)) (C := RX4) (T := TX4) (N := 9) hx hb hts hiX4 hown hK hP 0 (xp_0 _ _ _ _ _ _ _ _ _ _ _ _) rfl 0 (by decide) k10 (fun _ h9 => h9) rfl dX4_alike_35 ?_
    refine lv_iload hx hb dX4_alike_38 (lv_at hl 1 rfl) ?_
    refine lv_iload hx hb dX4_alike_40 (lv_at hl 0 rfl) ?_
    refine cRi (w := wv G (fun k => h (10 + k)) wn) (As := [.int ((wn.2 4) a1), .int ((wn.2 4) b1)]) (rest := []) ⟨hx, hb, hml, hown, hts⟩ (mt_X3_countInBoth l G (fun k => h (10 + k)) wn nl ((wn.2 4) a1) ((wn.2 4) b1) (hnl) (by first | assumption | omega)) (cwV 2 hts gX4_alike_X3_countInBoth rfl rfl rfl (by decide +kernel) ⟨Nat.le_of_ble_eq_true rfl, Nat.le_of_ble_eq_true rfl⟩) hK hN (hP.sub [3, 4, 5, 6, 7, 8, 9, 10] (xf_now _ _ _ _ _ _ _ _ _ _ _ _)) 0 3 rfl rfl rfl hl.1 rfl (Nat.le_of_ble_eq_true rfl) ⟨Nat.zero_le _, Nat.zero_le _⟩ dX4_alike_42 (fun r42 hw42 => ?_)
    obtain rfl := hw42
    refine lv_istore (lv' := [(6, .int (nI (cnt (fun i => sdb (wn.2 7) (wn.2 8) ((wn.2 4) a1) i && sdb (wn.2 7) (wn.2 8) ((wn.2 4) b1) i) nl))), (5, .int ((wn.2 4) b1)), (4, .int ((wn.2 4) a1)), (0, .ref (h 0)), (1, .int (nI a1)), (2, .int (nI b1)), (3, .int what)]) hx hb dX4_alike_45 hl (by decide) rfl (fun ls hl => ?_)
    refine lv_iload_n hx hb dX4_alike_47 rfl (lv_at hl 6 rfl) ?_
    by_cases q48_0 : what = 0
    · skip
      subst q48_0
      refine lv_tableIn (tgt := 80) hx hb dX4_alike_48 (by decide) (by decide) rfl (by decide) ?_
      refine lv_iload hx hb dX4_alike_80 (lv_at hl 0 rfl) ?_
      exact W.iret (v := nI (cnt (fun i => sdb (wn.2 7) (wn.2 8) ((wn.2 4) a1) i && sdb (wn.2 7) (wn.2 8) ((wn.2 4) b1) i) nl)) hx hb hr (fun t ht hW => ⟨nI (cnt (fun i => sdb (wn.2 7) (wn.2 8) ((wn.2 4) a1) i && sdb (wn.2 7) (wn.2 8) ((wn.2 4) b1) i) nl), rfl, by first | rfl | trivial | omega | assumption, ht⟩) (fun _ h9 => by cases h9) dX4_alike_82
    by_cases q48_1 : what = 1
    · skip
      subst q48_1
      refine lv_tableIn (tgt := 83) hx hb dX4_alike_48 (by decide) (by decide) rfl (by decide) ?_
      refine lv_aload_n hx hb dX4_alike_83 rfl (lv_at hl 3 rfl) ?_
      refine va_get (D := gD G) (ci := 4) (v := .ref (h 10)) (C := RX4) (T := TX4) (N := 9) hx hb hts hiX4 hown hK hP 0 (xp_0 _ _ _ _ _ _ _ _ _ _ _ _) rfl 0 (by decide) k10 (fun _ h9 => h9) rfl dX4_alike_84 ?_
      refine lv_iload hx hb dX4_alike_87 (lv_at hl 2 rfl) ?_
      refine cRi (w := wv G (fun k => h (10 + k)) wn) (As := [.int ((wn.2 4) a1)]) (rest := []) ⟨hx, hb, hml, hown, hts⟩ (mt_X3_countStanding l G (fun k => h (10 + k)) wn nl ((wn.2 4) a1) (hnl) (by first | assumption | omega)) (cwV 1 hts gX4_alike_X3_countStanding rfl rfl rfl (by decide +kernel) ⟨Nat.le_of_ble_eq_true rfl, Nat.le_of_ble_eq_true rfl⟩) hK hN (hP.sub [3, 4, 5, 6, 7, 8, 9, 10] (xf_now _ _ _ _ _ _ _ _ _ _ _ _)) 0 3 rfl rfl rfl hl.1 rfl (Nat.le_of_ble_eq_true rfl) ⟨Nat.zero_le _, Nat.zero_le _⟩ dX4_alike_89 (fun r89 hw89 => ?_)
      obtain rfl := hw89
      have hc89 := cnt_le (sdb (wn.2 7) (wn.2 8) ((wn.2 4) a1)) nl
      refine lv_iload hx hb dX4_alike_92 (lv_at hl 0 rfl) ?_
      refine lv_isub hx hb dX4_alike_94 ?_
      exact W.iret (v := (nI (cnt (sdb (wn.2 7) (wn.2 8) ((wn.2 4) a1)) nl)) - (nI (cnt (fun i => sdb (wn.2 7) (wn.2 8) ((wn.2 4) a1) i && sdb (wn.2 7) (wn.2 8) ((wn.2 4) b1) i) nl))) hx hb hr (fun t ht hW => ⟨(nI (cnt (sdb (wn.2 7) (wn.2 8) ((wn.2 4) a1)) nl)) - (nI (cnt (fun i => sdb (wn.2 7) (wn.2 8) ((wn.2 4) a1) i && sdb (wn.2 7) (wn.2 8) ((wn.2 4) b1) i) nl)), rfl, by first | rfl | trivial | omega | assumption, ht⟩) (fun _ h9 => by cases h9) dX4_alike_95
    by_cases q48_2 : what = 2
    · skip
      subst q48_2
      refine lv_tableIn (tgt := 96) hx hb dX4_alike_48 (by decide) (by decide) rfl (by decide) ?_
      refine lv_aload_n hx hb dX4_alike_96 rfl (lv_at hl 3 rfl) ?_
      refine va_get (D := gD G) (ci := 4) (v := .ref (h 10)) (C := RX4) (T := TX4) (N := 9) hx hb hts hiX4 hown hK hP 0 (xp_0 _ _ _ _ _ _ _ _ _ _ _ _) rfl 0 (by decide) k10 (fun _ h9 => h9) rfl dX4_alike_97 ?_
      refine lv_iload hx hb dX4_alike_100 (lv_at hl 1 rfl) ?_
      refine cRi (w := wv G (fun k => h (10 + k)) wn) (As := [.int ((wn.2 4) b1)]) (rest := []) ⟨hx, hb, hml, hown, hts⟩ (mt_X3_countStanding l G (fun k => h (10 + k)) wn nl ((wn.2 4) b1) (hnl) (by first | assumption | omega)) (cwV 1 hts gX4_alike_X3_countStanding rfl rfl rfl (by decide +kernel) ⟨Nat.le_of_ble_eq_true rfl, Nat.le_of_ble_eq_true rfl⟩) hK hN (hP.sub [3, 4, 5, 6, 7, 8, 9, 10] (xf_now _ _ _ _ _ _ _ _ _ _ _ _)) 0 3 rfl rfl rfl hl.1 rfl (Nat.le_of_ble_eq_true rfl) ⟨Nat.zero_le _, Nat.zero_le _⟩ dX4_alike_102 (fun r102 hw102 => ?_)
      obtain rfl := hw102
      have hc102 := cnt_le (sdb (wn.2 7) (wn.2 8) ((wn.2 4) b1)) nl
      refine lv_iload hx hb dX4_alike_105 (lv_at hl 0 rfl) ?_
      refine lv_isub hx hb dX4_alike_107 ?_
      exact W.iret (v := (nI (cnt (sdb (wn.2 7) (wn.2 8) ((wn.2 4) b1)) nl)) - (nI (cnt (fun i => sdb (wn.2 7) (wn.2 8) ((wn.2 4) a1) i && sdb (wn.2 7) (wn.2 8) ((wn.2 4) b1) i) nl))) hx hb hr (fun t ht hW => ⟨(nI (cnt (sdb (wn.2 7) (wn.2 8) ((wn.2 4) b1)) nl)) - (nI (cnt (fun i => sdb (wn.2 7) (wn.2 8) ((wn.2 4) a1) i && sdb (wn.2 7) (wn.2 8) ((wn.2 4) b1) i) nl)), rfl, by first | rfl | trivial | omega | assumption, ht⟩) (fun _ h9 => by cases h9) dX4_alike_108
    by_cases q48_3 : what = 3
    · skip
      subst q48_3
      refine lv_tableIn (tgt := 109) hx hb dX4_alike_48 (by decide) (by decide) rfl (by decide) ?_
      refine lv_aload_n hx hb dX4_alike_109 rfl (lv_at hl 3 rfl) ?_
      refine va_get (D := gD G) (ci := 4) (v := .ref (h 10)) (C := RX4) (T := TX4) (N := 9) hx hb hts hiX4 hown hK hP 0 (xp_0 _ _ _ _ _ _ _ _ _ _ _ _) rfl 0 (by decide) k10 (fun _ h9 => h9) rfl dX4_alike_110 ?_
      refine lv_iload hx hb dX4_alike_113 (lv_at hl 2 rfl) ?_
      refine lv_iload hx hb dX4_alike_115 (lv_at hl 1 rfl) ?_
      refine cRi (w := wv G (fun k => h (10 + k)) wn) (As := [.int ((wn.2 4) a1), .int ((wn.2 4) b1)]) (rest := []) ⟨hx, hb, hml, hown, hts⟩ (mt_X3_findPart l G (fun k => h (10 + k)) wn nl ((wn.2 4) a1) ((wn.2 4) b1) (hnl) (by first | assumption | omega)) (cwV 2 hts gX4_alike_X3_findPart rfl rfl rfl (by decide +kernel) ⟨Nat.le_of_ble_eq_true rfl, Nat.le_of_ble_eq_true rfl⟩) hK hN (hP.sub [3, 4, 5, 6, 7, 8, 9, 10] (xf_now _ _ _ _ _ _ _ _ _ _ _ _)) 0 3 rfl rfl rfl hl.1 rfl (Nat.le_of_ble_eq_true rfl) ⟨Nat.zero_le _, Nat.zero_le _⟩ dX4_alike_117 (fun r117 hw117 => ?_)
      exact W.iret (v := r117) hx hb hr (fun t ht hW => ⟨r117, rfl, by first | rfl | trivial | omega | assumption, ht⟩) (fun _ h9 => by cases h9) dX4_alike_120
    have t48_0 : ¬ what.toInt = 0 := lv_neT q48_0 rfl
    have t48_1 : ¬ what.toInt = 1 := lv_neT q48_1 rfl
    have t48_2 : ¬ what.toInt = 2 := lv_neT q48_2 rfl
    have t48_3 : ¬ what.toInt = 3 := lv_neT q48_3 rfl
    refine lv_tableOut (tgt := 121) hx hb dX4_alike_48 (by omega) (by decide) ?_
    refine lv_ldc (v := (-1000000002 : Int32)) hx hb hown (hts (.constant RX4 56 (-1000000002)) (List.mem_of_getElem? (i := 3) rfl)) dX4_alike_121 ?_
    exact W.iret (v := (-1000000002 : Int32)) hx hb hr (fun t ht hW => ⟨(-1000000002 : Int32), rfl, by first | rfl | trivial | omega | assumption, ht⟩) (fun _ h9 => by cases h9) dX4_alike_123
  · skip
    refine lv_if_ne (tgt := 12) hx hb dX4_alike_6 (by decide) (fun c9 => absurd (by decide) c9) (fun _ => ?_)
    refine lv_ldc (v := (-1000000001 : Int32)) hx hb hown (hts (.constant RX4 110 (-1000000001)) (List.mem_of_getElem? (i := 1) rfl)) dX4_alike_9 ?_
    exact W.iret (v := (-1000000001 : Int32)) hx hb hr (fun t ht hW => ⟨(-1000000001 : Int32), rfl, by first | rfl | trivial | omega | assumption, ht⟩) (fun _ h9 => by cases h9) dX4_alike_11
set_option maxHeartbeats 1000000 in
set_option maxRecDepth 100000 in
theorem mt_X4_without (l : Launch) (G : gG) (h : Nat → Nat) (x : oS) (wn : oS) (wa : oS) (w0 : oS) (w1 : oS) (rd : oS) (wr : oS) (z : oS) (jj : Nat → Nat → Int64) (lt : Int64) (nv : Nat) (nl : Nat) (a : Int32) (b : Int32) (hnv : wn.1 0 = nI nv) (hnl : wn.1 5 = nI nl) (hnv24 : nv ≤ 24) (hnl120 : nl ≤ 120) : Met l yX4_without wsX4_without ({ frames := 3, cells := 0, slots := 0, locals := 67 }) (preR G (xw G h x wn wa w0 w1 rd wr z jj lt) [.ref (h 0), .int a, .int b]) (vp_Si (fun r : Int32 => True)) 0 0 (fun _ => False) := by
  refine Met.ofW (cc := cX4_without) (maxL := 3) (ret := (some .int)) (by decide) rfl ?_
  intro p e s m args below meth c s₁ B hml hv
  obtain ⟨ha, hP, hK, hN⟩ := hv
  subst ha
  have hx := B.exec
  have hb := B.bytes
  have hr := B.returns
  have hts := atoms_spec (ws := wsX4_without) B.pre
  have hown : s.vm.findClass RX4 = some m.cls := findClass_of_methodNamed B.named
  have hlocks := B.notSynchronized
  have hiX4 : ∀ w ∈ wsX40, w ∈ wsX4_without := by decide +kernel
  have k10 := hts (.fieldLink RX4 10 "WovenHistory" "now" "LWovenHistory$Weave;") (List.mem_of_getElem? (i := 2) rfl)
  have hiX3 : ∀ w ∈ wsX30, w ∈ wsX4_without := by decide +kernel
  have k115 : (Cond.fieldLinkNest "WovenHistory" 115 "WovenHistory$Weave" "changes" "[I" "WovenHistory").before _ s = true := va_Nw.use (A := ([.ref (h 0), .int a, .int b] : List Value).toArray) rfl (hN.1 ("WovenHistory", 115, "WovenHistory$Weave", "changes", "[I") (List.mem_of_getElem? (i := 1) rfl))
  have hl := lv_entry ([.ref (h 0), .int a, .int b]) (n := 3) (Nat.le_of_ble_eq_true rfl)
  rw [lg_entry_eq]
  generalize (lg_sl ([.ref (h 0), .int a, .int b]) ++ List.replicate (3 - (lg_sl ([.ref (h 0), .int a, .int b])).length) Slot.unset).toArray = ls at hl ⊢
  have hl : lv_has ls 3 [(0, .ref (h 0)), (1, .int a), (2, .int b)] := hl
  refine lv_aload_n hx hb dX4_without_0 rfl (lv_at hl 0 rfl) ?_
  refine lv_iload_n hx hb dX4_without_1 rfl (lv_at hl 1 rfl) ?_
  refine lv_iload_n hx hb dX4_without_2 rfl (lv_at hl 2 rfl) ?_
  refine cRi (w := xw G h x wn wa w0 w1 rd wr z jj lt) (As := [.int a, .int b]) (rest := []) ⟨hx, hb, hml, hown, hts⟩ (mt_X4_areTwoVersions l G h x wn wa w0 w1 rd wr z jj lt nv nl a b (hnv) (hnl) (by first | assumption | omega) (by first | assumption | omega)) (cwV 2 hts gX4_without_X4_areTwoVersions rfl rfl rfl (by decide +kernel) ⟨Nat.le_of_ble_eq_true rfl, Nat.le_of_ble_eq_true rfl⟩) hK hN hP 0 4 rfl rfl rfl hl.1 rfl (Nat.le_of_ble_eq_true rfl) ⟨Nat.zero_le _, Nat.zero_le _⟩ dX4_without_3 (fun r3 hw3 => ?_)
  rcases hw3 with ⟨rfl, ⟨a1, ha1, rfl⟩, b1, hb1, rfl⟩ | rfl
  · skip
    refine lv_if_ne (tgt := 12) hx hb dX4_without_6 (by decide) (fun _ => ?_) (fun c9 => absurd c9 (by decide))
    refine lv_aload_n hx hb dX4_without_12 rfl (lv_at hl 0 rfl) ?_
    refine va_get (D := gD G) (ci := 4) (v := .ref (h 10)) (C := RX4) (T := TX4) (N := 9) hx hb hts hiX4 hown hK hP 0 (xp_0 _ _ _ _ _ _ _ _ _ _ _ _) rfl 0 (by decide) k10 (fun _ h9 => h9) rfl dX4_without_13 ?_
    refine lv_aload_n hx hb dX4_without_16 rfl (lv_at hl 0 rfl) ?_
    refine va_get (D := gD G) (ci := 4) (v := .ref (h 10)) (C := RX4) (T := TX4) (N := 9) hx hb hts hiX4 hown hK hP 0 (xp_0 _ _ _ _ _ _ _ _ _ _ _ _) rfl 0 (by decide) k10 (fun _ h9 => h9) rfl dX4_without_17 ?_
    refine va_getN (D := gD G) (ci := 3) (v := .ref (h 14)) (C := RX3) (T := TX3) (N := 9) hx hb hts hiX3 hown hK hP 3 (xp_3 _ _ _ _ _ _ _ _ _ _ _ _) rfl 4 (by decide) k115 (fun _ h9 => h9) rfl dX4_without_20 ?_
    refine lv_iload_n hx hb dX4_without_23 rfl (lv_at hl 1 rfl) ?_
    refine ialdN (f := wn.2 4) (n := 24) (k := a1) hx hb hK hP 7 (xp_7 _ _ _ _ _ _ _ _ _ _ _ _) rfl (by omega) dX4_without_24 ?_
    refine lv_iload_n hx hb dX4_without_25 rfl (lv_at hl 2 rfl) ?_
    refine cSi (As := [.int (nI b1)]) (rest := [.int ((wn.2 4) a1), .ref (h 10)]) ⟨hx, hb, hml, hown, hts⟩ (mt_X3_only l (nI b1)) (va_cwS 1 hts gX4_without_X3_only rfl rfl rfl (by decide +kernel) ⟨Nat.le_of_ble_eq_true rfl, Nat.le_of_ble_eq_true rfl⟩) rfl hl.1 rfl (Nat.le_of_ble_eq_true rfl) ⟨Nat.zero_le _, Nat.zero_le _⟩ dX4_without_26 (fun r26 hw26 => ?_)
    refine lv_iconst (v := (-1 : Int32)) hx hb dX4_without_29 (by decide) ?_
    refine lv_ixor hx hb dX4_without_30 ?_
    refine lv_iand hx hb dX4_without_31 ?_
    refine cRi (w := wv G (fun k => h (10 + k)) wn) (As := [.int (((wn.2 4) a1) &&& (r26 ^^^ (-1 : Int32)))]) (rest := []) ⟨hx, hb, hml, hown, hts⟩ (mt_X3_countStanding l G (fun k => h (10 + k)) wn nl (((wn.2 4) a1) &&& (r26 ^^^ (-1 : Int32))) (hnl) (by first | assumption | omega)) (cwV 1 hts gX4_without_X3_countStanding rfl rfl rfl (by decide +kernel) ⟨Nat.le_of_ble_eq_true rfl, Nat.le_of_ble_eq_true rfl⟩) hK hN (hP.sub [3, 4, 5, 6, 7, 8, 9, 10] (xf_now _ _ _ _ _ _ _ _ _ _ _ _)) 0 3 rfl rfl rfl hl.1 rfl (Nat.le_of_ble_eq_true rfl) ⟨Nat.zero_le _, Nat.zero_le _⟩ dX4_without_32 (fun r32 hw32 => ?_)
    obtain rfl := hw32
    have hc32 := cnt_le (sdb (wn.2 7) (wn.2 8) (((wn.2 4) a1) &&& (r26 ^^^ (-1 : Int32)))) nl
    exact W.iret (v := nI (cnt (sdb (wn.2 7) (wn.2 8) (((wn.2 4) a1) &&& (r26 ^^^ (-1 : Int32)))) nl)) hx hb hr (fun t ht hW => ⟨nI (cnt (sdb (wn.2 7) (wn.2 8) (((wn.2 4) a1) &&& (r26 ^^^ (-1 : Int32)))) nl), rfl, by first | rfl | trivial | omega | assumption, ht⟩) (fun _ h9 => by cases h9) dX4_without_35
  · skip
    refine lv_if_ne (tgt := 12) hx hb dX4_without_6 (by decide) (fun c9 => absurd (by decide) c9) (fun _ => ?_)
    refine lv_ldc (v := (-1000000001 : Int32)) hx hb hown (hts (.constant RX4 110 (-1000000001)) (List.mem_of_getElem? (i := 1) rfl)) dX4_without_9 ?_
    exact W.iret (v := (-1000000001 : Int32)) hx hb hr (fun t ht hW => ⟨(-1000000001 : Int32), rfl, by first | rfl | trivial | omega | assumption, ht⟩) (fun _ h9 => by cases h9) dX4_without_11
set_option maxHeartbeats 1000000 in
set_option maxRecDepth 100000 in
theorem mt_X4_near (l : Launch) (G : gG) (h : Nat → Nat) (x : oS) (wn : oS) (wa : oS) (w0 : oS) (w1 : oS) (rd : oS) (wr : oS) (z : oS) (jj : Nat → Nat → Int64) (lt : Int64) (nv : Nat) (nl : Nat) (a : Int32) (b : Int32) (hnv : wn.1 0 = nI nv) (hnl : wn.1 5 = nI nl) (hnv24 : nv ≤ 24) (hnl120 : nl ≤ 120) : Met l yX4_near wsX4_near ({ frames := 2, cells := 0, slots := 0, locals := 44 }) (preR G (xw G h x wn wa w0 w1 rd wr z jj lt) [.ref (h 0), .int a, .int b]) (vp_Si (fun r : Int32 => True)) 0 0 (fun _ => False) := by
  refine Met.ofW (cc := cX4_near) (maxL := 5) (ret := (some .int)) (by decide) rfl ?_
  intro p e s m args below meth c s₁ B hml hv
  obtain ⟨ha, hP, hK, hN⟩ := hv
  subst ha
  have hx := B.exec
  have hb := B.bytes
  have hr := B.returns
  have hts := atoms_spec (ws := wsX4_near) B.pre
  have hown : s.vm.findClass RX4 = some m.cls := findClass_of_methodNamed B.named
  have hlocks := B.notSynchronized
  have hiX4 : ∀ w ∈ wsX40, w ∈ wsX4_near := by decide +kernel
  have k10 := hts (.fieldLink RX4 10 "WovenHistory" "now" "LWovenHistory$Weave;") (List.mem_of_getElem? (i := 2) rfl)
  have hl := lv_entry ([.ref (h 0), .int a, .int b]) (n := 5) (Nat.le_of_ble_eq_true rfl)
  rw [lg_entry_eq]
  generalize (lg_sl ([.ref (h 0), .int a, .int b]) ++ List.replicate (5 - (lg_sl ([.ref (h 0), .int a, .int b])).length) Slot.unset).toArray = ls at hl ⊢
  have hl : lv_has ls 5 [(0, .ref (h 0)), (1, .int a), (2, .int b)] := hl
  refine lv_aload_n hx hb dX4_near_0 rfl (lv_at hl 0 rfl) ?_
  refine lv_iload_n hx hb dX4_near_1 rfl (lv_at hl 1 rfl) ?_
  refine lv_iload_n hx hb dX4_near_2 rfl (lv_at hl 2 rfl) ?_
  refine cRi (w := xw G h x wn wa w0 w1 rd wr z jj lt) (As := [.int a, .int b]) (rest := []) ⟨hx, hb, hml, hown, hts⟩ (mt_X4_areTwoVersions l G h x wn wa w0 w1 rd wr z jj lt nv nl a b (hnv) (hnl) (by first | assumption | omega) (by first | assumption | omega)) (cwV 2 hts gX4_near_X4_areTwoVersions rfl rfl rfl (by decide +kernel) ⟨Nat.le_of_ble_eq_true rfl, Nat.le_of_ble_eq_true rfl⟩) hK hN hP 0 4 rfl rfl rfl hl.1 rfl (Nat.le_of_ble_eq_true rfl) ⟨Nat.zero_le _, Nat.zero_le _⟩ dX4_near_3 (fun r3 hw3 => ?_)
  rcases hw3 with ⟨rfl, ⟨a1, ha1, rfl⟩, b1, hb1, rfl⟩ | rfl
  · skip
    refine lv_if_ne (tgt := 12) hx hb dX4_near_6 (by decide) (fun _ => ?_) (fun c9 => absurd c9 (by decide))
    refine lv_aload_n hx hb dX4_near_12 rfl (lv_at hl 0 rfl) ?_
    refine va_get (D := gD G) (ci := 4) (v := .ref (h 10)) (C := RX4) (T := TX4) (N := 9) hx hb hts hiX4 hown hK hP 0 (xp_0 _ _ _ _ _ _ _ _ _ _ _ _) rfl 0 (by decide) k10 (fun _ h9 => h9) rfl dX4_near_13 ?_
    refine lv_iload_n hx hb dX4_near_16 rfl (lv_at hl 1 rfl) ?_
    refine cRi (w := wv G (fun k => h (10 + k)) wn) (As := [.int (nI a1)]) (rest := []) ⟨hx, hb, hml, hown, hts⟩ (mt_X3_lineageOf l G (fun k => h (10 + k)) wn nv (nI a1) (hnv) (by first | assumption | omega)) (cwV 1 hts gX4_near_X3_lineageOf rfl rfl rfl (by decide +kernel) ⟨Nat.le_of_ble_eq_true rfl, Nat.le_of_ble_eq_true rfl⟩) hK hN (hP.sub [3, 4, 5, 6, 7, 8, 9, 10] (xf_now _ _ _ _ _ _ _ _ _ _ _ _)) 0 3 rfl rfl rfl hl.1 rfl (Nat.le_of_ble_eq_true rfl) ⟨Nat.zero_le _, Nat.zero_le _⟩ dX4_near_17 (fun r17 hw17 => ?_)
    refine lv_aload_n hx hb dX4_near_20 rfl (lv_at hl 0 rfl) ?_
    refine va_get (D := gD G) (ci := 4) (v := .ref (h 10)) (C := RX4) (T := TX4) (N := 9) hx hb hts hiX4 hown hK hP 0 (xp_0 _ _ _ _ _ _ _ _ _ _ _ _) rfl 0 (by decide) k10 (fun _ h9 => h9) rfl dX4_near_21 ?_
    refine lv_iload_n hx hb dX4_near_24 rfl (lv_at hl 2 rfl) ?_
    refine cRi (w := wv G (fun k => h (10 + k)) wn) (As := [.int (nI b1)]) (rest := [.int r17]) ⟨hx, hb, hml, hown, hts⟩ (mt_X3_lineageOf l G (fun k => h (10 + k)) wn nv (nI b1) (hnv) (by first | assumption | omega)) (cwV 1 hts gX4_near_X3_lineageOf rfl rfl rfl (by decide +kernel) ⟨Nat.le_of_ble_eq_true rfl, Nat.le_of_ble_eq_true rfl⟩) hK hN (hP.sub [3, 4, 5, 6, 7, 8, 9, 10] (xf_now _ _ _ _ _ _ _ _ _ _ _ _)) 0 3 rfl rfl rfl hl.1 rfl (Nat.le_of_ble_eq_true rfl) ⟨Nat.zero_le _, Nat.zero_le _⟩ dX4_near_25 (fun r25 hw25 => ?_)
    refine lv_iand hx hb dX4_near_28 ?_
    refine lv_istore_n (lv' := [(3, .int (r17 &&& r25)), (0, .ref (h 0)), (1, .int (nI a1)), (2, .int (nI b1))]) hx hb dX4_near_29 rfl hl (by decide) rfl (fun ls hl => ?_)
    refine lv_bipush (v := nI 23) hx hb dX4_near_30 (by decide) ?_
    refine lv_istore (lv' := [(4, .int (nI 23)), (3, .int (r17 &&& r25)), (0, .ref (h 0)), (1, .int (nI a1)), (2, .int (nI b1))]) hx hb dX4_near_32 hl (by decide) rfl (fun ls hl => ?_)
    have LP34 : ∀ (n34m : Nat), ∀ (kk : Nat) (x1 : Int32) (hkk : kk ≤ 24), (kk < n34m) → ∀ (ls : Array Slot), lv_has ls 5 [(3, .int x1), (4, .int (nI kk + (-1)))] → W p l e (headSpec wsX4_near ({ frames := 2, cells := 0, slots := 0, locals := 44 })).room s m ([.ref (h 0), .int (nI a1), .int (nI b1)] : List Value).toArray below meth c s.heap [] 0 0 (MQ below (vp_Si (fun r : Int32 => True)) ([.ref (h 0), .int (nI a1), .int (nI b1)] : List Value).toArray s 0 0 (fun _ => False)) (F0 m 34 ls []) := by
      intro n34m
      induction n34m with
      | zero => intro kk x1 hkk hmu ls hl; exact absurd hmu (Nat.not_lt_zero _)
      | succ n34m ih34 =>
        intro kk x1 hkk hmu ls hl
        refine lv_iload hx hb dX4_near_34 (lv_at hl 1 rfl) ?_
        refine lv_if_lt (tgt := 57) hx hb dX4_near_36 (by decide) (fun c36 => ?_) (fun c36 => ?_)
        · skip
          refine lv_iconst (v := (-1 : Int32)) hx hb dX4_near_57 (by decide) ?_
          exact W.iret (v := (-1 : Int32)) hx hb hr (fun t ht hW => ⟨(-1 : Int32), rfl, by first | rfl | trivial | omega | assumption, ht⟩) (fun _ h9 => by cases h9) dX4_near_58
        · skip
          obtain ⟨k36, rfl⟩ := nI_m1pos c36
          rw [pk_m1] at hl
          refine lv_iload_n hx hb dX4_near_39 rfl (lv_at hl 0 rfl) ?_
          refine lv_iload hx hb dX4_near_40 (lv_at hl 1 rfl) ?_
          refine cSi (As := [.int x1, .int (nI k36)]) (rest := []) ⟨hx, hb, hml, hown, hts⟩ (mt_X3_holds l x1 (nI k36)) (va_cwS 2 hts gX4_near_X3_holds rfl rfl rfl (by decide +kernel) ⟨Nat.le_of_ble_eq_true rfl, Nat.le_of_ble_eq_true rfl⟩) rfl hl.1 rfl (Nat.le_of_ble_eq_true rfl) ⟨Nat.zero_le _, Nat.zero_le _⟩ dX4_near_42 (fun r42 hw42 => ?_)
          rcases hw42 with rfl | rfl
          · skip
            refine lv_if_eq (tgt := 51) hx hb dX4_near_45 (by decide) (fun c9 => absurd c9 (by decide)) (fun _ => ?_)
            refine lv_iload hx hb dX4_near_48 (lv_at hl 1 rfl) ?_
            exact W.iret (v := nI k36) hx hb hr (fun t ht hW => ⟨nI k36, rfl, by first | rfl | trivial | omega | assumption, ht⟩) (fun _ h9 => by cases h9) dX4_near_50
          · skip
            refine lv_if_eq (tgt := 51) hx hb dX4_near_45 (by decide) (fun _ => ?_) (fun c9 => absurd (by decide) c9)
            refine lv_iinc (v := (nI k36) + (-1)) (lv' := [(4, .int ((nI k36) + (-1))), (3, .int x1)]) hx hb dX4_near_51 hl (k := 1) rfl (rfl) (by decide) rfl (fun ls hl => ?_)
            refine lv_goto (tgt := 34) hx hb dX4_near_54 (by decide) ?_
            exact ih34 k36 x1 (by first | assumption | omega) (by omega) ls (lv_sub hl [1, 0] rfl)
    exact LP34 (24 + 1) 24 (r17 &&& r25) (by first | assumption | omega) (Nat.lt_succ_self _) ls (lv_sub hl [1, 0] rfl)
  · skip
    refine lv_if_ne (tgt := 12) hx hb dX4_near_6 (by decide) (fun c9 => absurd (by decide) c9) (fun _ => ?_)
    refine lv_ldc (v := (-1000000001 : Int32)) hx hb hown (hts (.constant RX4 110 (-1000000001)) (List.mem_of_getElem? (i := 1) rfl)) dX4_near_9 ?_
    exact W.iret (v := (-1000000001 : Int32)) hx hb hr (fun t ht hW => ⟨(-1000000001 : Int32), rfl, by first | rfl | trivial | omega | assumption, ht⟩) (fun _ h9 => by cases h9) dX4_near_11
