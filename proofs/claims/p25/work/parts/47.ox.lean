/-! the class: a Weave's steps against the state's -/
section WV
variable {w : oS} {s : pS} {top : Nat}
theorem CW.ch (h : CW w s top) (hI : IC s top) {n : Nat} (hn : n ≤ top) : chOK w n := by
  intro i hi
  obtain ⟨h1, h2, h3, h4, h5, h6, -⟩ := h
  refine (h6 i (by omega)).trans ?_
  exact chV_c (by have := hI.2.1; omega) (hI.2.2.2.le (by omega)) (fun j hj => ⟨(h3 j (by omega)).symm, (h4 j (by omega)).symm, (h5 j (by omega)).symm⟩)
theorem CW.pw (h : CW w s top) (hI : IC s top) {n : Nat} (hn : n ≤ top) : parOK (w.2 1) n := (parRw2 h.2.2.1 hI.2.2.2).le hn
theorem CW.c4 (h : CW w s top) {v : Nat} (hv : v < top) : w.2 4 v = cvS s v := h.2.2.2.2.2.1 v hv
theorem CW.ol (h : CW w s (s.1 0 + 1)) : cnt (sdb (w.2 7) (w.2 8) (w.2 4 (s.1 0))) (s.1 4) = olS s := by
  rw [h.c4 (Nat.lt_succ_self _)]
  exact h.nl _
theorem CW.pos (h : CW w s (s.1 0 + 1)) {q : Nat} : posP (sdb (w.2 7) (w.2 8) (w.2 4 (s.1 0))) (s.1 4) q = posP (sdS s (cvS s (s.1 0))) (s.1 4) q := by
  rw [h.c4 (Nat.lt_succ_self _)]
  exact posP_c (h.sd _)
theorem CW.put {q : Nat} {c : Int32} (h : CW w s (s.1 0 + 1)) : CW (insW w (posP (sdb (w.2 7) (w.2 8) (w.2 4 (s.1 0))) (s.1 4) q) (s.1 4) c (nI (s.1 0)) (nI 0)) (sPut s q c) (s.1 0 + 1) := by
  rw [h.pos]
  exact h.ins (posP_le _ _ _)
theorem CW.fnd (h : CW w s (s.1 0 + 1)) {q : Nat} : fndN (sdb (w.2 7) (w.2 8) (w.2 4 (s.1 0))) (s.1 4) q = fndN (sdS s (cvS s (s.1 0))) (s.1 4) q := by
  rw [h.c4 (Nat.lt_succ_self _)]
  exact fndN_c _ _ (h.sd _)
theorem fnd_lt {q : Nat} (hq : q < olS s) : fndN (sdS s (cvS s (s.1 0))) (s.1 4) q < s.1 4 := (fndN_is hq).1
theorem CW.tk' {q : Nat} (h : CW w s (s.1 0 + 1)) (hq : q < olS s) : CW (tkW w (fndN (sdb (w.2 7) (w.2 8) (w.2 4 (s.1 0))) (s.1 4) q) (s.1 0) (s.1 4)) (sTake s (fndN (sdS s (cvS s (s.1 0))) (s.1 4) q)) (s.1 0 + 1) := by
  rw [h.fnd]
  exact h.tak (fnd_lt hq)
theorem CW.fv (h : CW w s top) {v i q : Nat} (hv : v < top) (hi : i < s.1 4) (hp : sdb (w.2 7) (w.2 8) (w.2 4 v) i = true) (hq : cnt (sdb (w.2 7) (w.2 8) (w.2 4 v)) i = q) : fndN (sdS s (cvS s v)) (s.1 4) q = i := by
  rw [← h.c4 hv, ← fndN_c _ _ (h.sd _)]
  exact fndN_hit hp hq hi
theorem CW.fm (h : CW w s top) {v q : Nat} (hv : v < top) (hq : cnt (sdb (w.2 7) (w.2 8) (w.2 4 v)) (s.1 4) ≤ q) : fndN (sdS s (cvS s v)) (s.1 4) q = s.1 4 := by
  rw [← h.c4 hv, ← fndN_c _ _ (h.sd _)]
  exact fndN_miss hq
theorem cvS_23 {t : pS} (hI : IC s (s.1 0 + 1)) (h1 : t.2 1 = s.2 1) (h2 : rwE (t.2 2) (s.2 2) (s.1 0)) (h3 : rwE (t.2 3) (s.2 3) (s.1 0)) {i : Nat} (hi : i < s.1 0) : cvS t i = cvS s i := by
  unfold cvS
  rw [h1]
  exact (chV_c (by have := hI.1; omega) (hI.2.2.2.le (by omega)) (fun j hj => ⟨rfl, (h2 j (by omega)).symm, (h3 j (by omega)).symm⟩)).symm
theorem stW_cv {t : pS} (hI : IC s (s.1 0 + 1)) (h1 : w.1 0 = nI (s.1 0)) (h2 : w.1 5 = nI (s.1 4)) (g1 : rwE (w.2 1) (t.2 1) (s.1 0 + 1)) (g2 : rwE (w.2 2) (t.2 2) (s.1 0 + 1)) (g3 : rwE (w.2 3) (t.2 3) (s.1 0 + 1)) (g4 : ∀ i, i < s.1 0 → w.2 4 i = cvS t i) (e0 : t.1 0 = s.1 0) (e4 : t.1 4 = s.1 4) (hp : parOK (t.2 1) (s.1 0 + 1)) (g5 : rwE (w.2 6) (t.2 5) (s.1 4)) (g6 : rwE (w.2 7) (t.2 6) (s.1 4)) (g7 : rwE (w.2 8) (t.2 7) (s.1 4)) : CW (stW w (s.1 0)) t (s.1 0 + 1) := by
  have hv := hI.2.1
  have hpw : parOK (w.2 1) (s.1 0 + 1) := parRw2 g1 hp
  have hch : chOK w (s.1 0) := fun i hi => (g4 i hi).trans (chV_c (by omega) (hp.le (by omega)) (fun j hj => ⟨(g1 j (by omega)).symm, (g2 j (by omega)).symm, (g3 j (by omega)).symm⟩))
  have hst := chOK_st hch hpw (by omega)
  refine ⟨?_, ?_, g1, g2, g3, fun i hi => ?_, ?_, ?_, ?_⟩
  · rw [e0]; exact h1
  · rw [e4]; exact h2
  · refine (hst i hi).trans ?_
    exact chV_c (by omega) (hpw.le (by omega)) (fun j hj => ⟨g1 j (by omega), g2 j (by omega), g3 j (by omega)⟩)
  · rw [e4]; exact g5
  · rw [e4]; exact g6
  · rw [e4]; exact g7
theorem CW.inc {v : Nat} (h : CW w s (s.1 0 + 1)) (hI : IC s (s.1 0 + 1)) : CW (stW (oA (oA w 3 (upd (w.2 3) (s.1 0) (w.2 3 (s.1 0) &&& (b1 v ^^^ (-1))))) 2 (upd (w.2 2) (s.1 0) (w.2 2 (s.1 0) ||| b1 v))) (s.1 0)) (sInc s v) (s.1 0 + 1) := by
  obtain ⟨h1, h2, h3, h4, h5, h6, h7, h8, h9⟩ := h
  refine stW_cv hI h1 h2 h3 (rwE_updk h4 (by rw [h4 _ (Nat.lt_succ_self _)])) (rwE_updk h5 (by rw [h5 _ (Nat.lt_succ_self _)])) (fun i hi => (h6 i (by omega)).trans ?_) rfl rfl hI.2.2.2 h7 h8 h9
  exact (cvS_23 (t := sInc s v) hI rfl (fun j hj => pk_un (by omega)) (fun j hj => pk_un (by omega)) hi).symm
theorem CW.exc {v : Nat} (h : CW w s (s.1 0 + 1)) (hI : IC s (s.1 0 + 1)) : CW (stW (oA (oA w 2 (upd (w.2 2) (s.1 0) (w.2 2 (s.1 0) &&& (b1 v ^^^ (-1))))) 3 (upd (w.2 3) (s.1 0) (w.2 3 (s.1 0) ||| b1 v))) (s.1 0)) (sExc s v) (s.1 0 + 1) := by
  obtain ⟨h1, h2, h3, h4, h5, h6, h7, h8, h9⟩ := h
  refine stW_cv hI h1 h2 h3 (rwE_updk h4 (by rw [h4 _ (Nat.lt_succ_self _)])) (rwE_updk h5 (by rw [h5 _ (Nat.lt_succ_self _)])) (fun i hi => (h6 i (by omega)).trans ?_) rfl rfl hI.2.2.2 h7 h8 h9
  exact (cvS_23 (t := sExc s v) hI rfl (fun j hj => pk_un (by omega)) (fun j hj => pk_un (by omega)) hi).symm
theorem v_inc {v k : Nat} (hk : k = 1 ∨ k = 2 ∨ k = 3) : rwE ((sInc s v).2 k) (s.2 k) (s.1 0) := by
  rcases hk with rfl | rfl | rfl
  · exact rwE.refl _ _
  · exact fun j hj => pk_un (by omega)
  · exact fun j hj => pk_un (by omega)
theorem v_exc {v k : Nat} (hk : k = 1 ∨ k = 2 ∨ k = 3) : rwE ((sExc s v).2 k) (s.2 k) (s.1 0) := by
  rcases hk with rfl | rfl | rfl
  · exact rwE.refl _ _
  · exact fun j hj => pk_un (by omega)
  · exact fun j hj => pk_un (by omega)
theorem v_put {q : Nat} {c : Int32} {k : Nat} (hk : k = 1 ∨ k = 2 ∨ k = 3) : rwE ((sPut s q c).2 k) (s.2 k) (s.1 0) := by
  rcases hk with rfl | rfl | rfl <;> exact rwE.refl _ _
theorem v_tak {a k : Nat} (hk : k = 1 ∨ k = 2 ∨ k = 3) : rwE ((sTake s a).2 k) (s.2 k) (s.1 0) := by rw [sTake_1 s a k hk]; exact rwE.refl _ _
theorem IC.lo (h : IC s top) (ht : s.1 0 ≤ top) : IC s (s.1 0) := ⟨h.1, h.1, h.2.2.1, h.2.2.2.le ht⟩
theorem hol_y {x : Int32} {v : Nat} (hv : v < 24) (h : ¬ x &&& onl (nI v) = 0) : hasb x v = true := by
  rw [onl_n hv] at h
  rw [← holB x hv]
  exact decide_eq_true h
theorem hol_n {x : Int32} {v : Nat} (hv : v < 24) (h : x &&& onl (nI v) = 0) : ¬ hasb x v = true := by
  rw [onl_n hv] at h
  rw [← holB x hv]
  exact fun q => of_decide_eq_true q h
theorem w3_y {x : Int32} (h0 : ¬ x < 0) (h1 : x ≤ nI 2) : inR x 3 = true := by
  obtain ⟨j, hj, rfl⟩ := le_y (n := 2) (by omega) h0 h1
  exact inR_t (by omega) (by omega)
theorem w3_n1 {x : Int32} (h : x < 0) : ¬ inR x 3 = true := inR_f (by omega) (fun j hj => le_n1 (n := 2) (by omega) h j (by omega))
theorem w3_n2 {x : Int32} (h : ¬ x ≤ nI 2) : ¬ inR x 3 = true := inR_f (by omega) (fun j hj => le_n2 (n := 2) (by omega) h j (by omega))
end WV
theorem dr_y1 {x : Int32} {n : Nat} (hn : n ≤ 1000000) (h1 : ¬ x < nI 1) (h2 : ¬ nI n < x) : ∃ j, 1 ≤ j ∧ j ≤ n ∧ x = nI j := by
  rw [Int32.lt_iff_toInt_lt] at h1 h2
  have e1 : (nI 1).toInt = 1 := rfl
  rw [nI_toInt (n := n) (by omega)] at h2
  refine ⟨x.toInt.toNat, by omega, by omega, ?_⟩
  rw [← Int32.toInt_inj, nI_toInt (by omega)]
  omega
theorem dr_y2 {x y : Int32} {n : Nat} (hn : n ≤ 1000000) (h1 : ¬ x < nI 1) (h2 : x ≤ y) (hy : y.toInt = n := by rfl) : ∃ j, 1 ≤ j ∧ j ≤ n ∧ x = nI j := by
  rw [Int32.lt_iff_toInt_lt] at h1
  rw [Int32.le_iff_toInt_le] at h2
  have e1 : (nI 1).toInt = 1 := rfl
  refine ⟨x.toInt.toNat, by omega, by omega, ?_⟩
  rw [← Int32.toInt_inj, nI_toInt (by omega)]
  omega
theorem dr_nx1 {x : Int32} (h : x < nI 1) : ¬ 0 < x := by
  rw [Int32.lt_iff_toInt_lt] at h
  rw [Int32.lt_iff_toInt_lt]
  have e1 : (nI 1).toInt = 1 := rfl
  have e0 : (0 : Int32).toInt = 0 := rfl
  omega
theorem dr_nx2 {x y : Int32} {n : Nat} (hn : n ≤ 1000000) (h : y < x ∨ ¬ x ≤ y) (hy : y.toInt = n := by rfl) : ¬ inR x (n + 1) = true := by
  intro q
  have q2 := of_decide_eq_true q
  rw [Int32.lt_iff_toInt_lt, Int32.le_iff_toInt_le] at h
  omega

set_option maxHeartbeats 1000000 in
set_option maxRecDepth 100000 in
theorem mt_X4_openChangesF (l : Launch) (G : gG) (h : Nat → Nat) (x : oS) (wn : oS) (wa : oS) (w0 : oS) (w1 : oS) (rd : oS) (wr : oS) (z : oS) (jj : Nat → Nat → Int64) (lt : Int64) (sg : pS) (hCW : CW wn sg (sg.1 0 + 1)) (hv23 : sg.1 0 < 24) (hl12 : sg.1 4 ≤ 120) : Met l yX4_openChanges wsX4_openChanges ({ frames := 1, cells := 0, slots := 0, locals := 21 }) (preR G (xw G h x wn wa w0 w1 rd wr z jj lt) [.ref (h 0)]) (vp_Si (fun r : Int32 => r = cvS sg (sg.1 0))) 0 0 (fun _ => False) := by
  refine Met.ofW (cc := cX4_openChanges) (maxL := 1) (ret := (some .int)) (by decide) rfl ?_
  intro p e s m args below meth c s₁ B hml hv
  obtain ⟨ha, hP, hK, hN⟩ := hv
  subst ha
  have hx := B.exec
  have hb := B.bytes
  have hr := B.returns
  have hts := atoms_spec (ws := wsX4_openChanges) B.pre
  have hown : s.vm.findClass RX4 = some m.cls := findClass_of_methodNamed B.named
  have hlocks := B.notSynchronized
  have hiX4 : ∀ w ∈ wsX40, w ∈ wsX4_openChanges := fun w h9 => List.mem_cons_of_mem _ (List.mem_append_left _ (List.mem_append_right _ (h9)))
  have k10 := hts (.fieldLink RX4 10 "WovenHistory" "now" "LWovenHistory$Weave;") (List.mem_of_getElem? (i := 1) rfl)
  have hiX3 : ∀ w ∈ wsX30, w ∈ wsX4_openChanges := fun w h9 => List.mem_cons_of_mem _ (List.mem_append_right _ (h9))
  have k82 : (Cond.fieldLinkNest "WovenHistory" 82 "WovenHistory$Weave" "versions" "I" "WovenHistory").before _ s = true := va_Nw.use (A := ([.ref (h 0)] : List Value).toArray) rfl (hN.1 ("WovenHistory", 82, "WovenHistory$Weave", "versions", "I") (List.mem_of_getElem? (i := 12) rfl))
  have hl := lv_entry ([.ref (h 0)]) (n := 1) (Nat.le_of_ble_eq_true rfl)
  rw [lg_entry_eq]
  generalize (lg_sl ([.ref (h 0)]) ++ List.replicate (1 - (lg_sl ([.ref (h 0)])).length) Slot.unset).toArray = ls at hl ⊢
  have hl : lv_has ls 1 [(0, .ref (h 0))] := hl
  refine lv_aload_n hx hb dX4_openChanges_0 rfl (lv_at hl 0 rfl) ?_
  refine va_get (D := gD G) (ci := 4) (v := .ref (h 10)) (C := RX4) (T := TX4) (N := 9) hx hb hts hiX4 hown hK hP 0 (xp_0 _ _ _ _ _ _ _ _ _ _ _ _) rfl 0 (by decide) k10 (fun _ h9 => h9) rfl dX4_openChanges_1 ?_
  refine lv_aload_n hx hb dX4_openChanges_4 rfl (lv_at hl 0 rfl) ?_
  refine va_get (D := gD G) (ci := 4) (v := .ref (h 10)) (C := RX4) (T := TX4) (N := 9) hx hb hts hiX4 hown hK hP 0 (xp_0 _ _ _ _ _ _ _ _ _ _ _ _) rfl 0 (by decide) k10 (fun _ h9 => h9) rfl dX4_openChanges_5 ?_
  refine va_getN (D := gD G) (ci := 3) (v := .int (wn.1 0)) (C := RX3) (T := TX3) (N := 9) hx hb hts hiX3 hown hK hP 3 (xp_3 _ _ _ _ _ _ _ _ _ _ _ _) rfl 0 (by decide) k82 (fun _ h9 => h9) rfl dX4_openChanges_8 ?_
  refine topE hCW.1 ?_
  refine cRi (w := wv G (fun k => h (10 + k)) wn) (As := [.int (nI (sg.1 0))]) (rest := []) ⟨hx, hb, hml, hown, hts⟩ (mt_X3_changesOfN l G (fun k => h (10 + k)) wn (sg.1 0) (by first | assumption | omega)) (cwV 1 hts gX4_openChanges_X3_changesOf rfl rfl rfl ⟨rfl, hd_X3_changesOf⟩ ⟨Nat.le_of_ble_eq_true rfl, Nat.le_of_ble_eq_true rfl⟩) hK hN (hP.sub [3, 4, 5, 6, 7, 8, 9, 10] (xf_now _ _ _ _ _ _ _ _ _ _ _ _)) 0 3 rfl rfl rfl hl.1 rfl (Nat.le_of_ble_eq_true rfl) ⟨Nat.zero_le _, Nat.zero_le _⟩ dX4_openChanges_11 (fun r11 hw11 => ?_)
  obtain rfl := hw11
  exact W.iret (v := wn.2 4 (sg.1 0)) hx hb hr (fun t ht hW => ⟨wn.2 4 (sg.1 0), rfl, hCW.c4 (Nat.lt_succ_self _), ht⟩) (fun _ h9 => by cases h9) dX4_openChanges_14
set_option maxHeartbeats 1000000 in
set_option maxRecDepth 100000 in
theorem mt_X4_openLinesF (l : Launch) (G : gG) (h : Nat → Nat) (x : oS) (wn : oS) (wa : oS) (w0 : oS) (w1 : oS) (rd : oS) (wr : oS) (z : oS) (jj : Nat → Nat → Int64) (lt : Int64) (sg : pS) (hCW : CW wn sg (sg.1 0 + 1)) (hv23 : sg.1 0 < 24) (hl12 : sg.1 4 ≤ 120) : Met l yX4_openLines wsX4_openLines ({ frames := 3, cells := 0, slots := 0, locals := 67 }) (preR G (xw G h x wn wa w0 w1 rd wr z jj lt) [.ref (h 0)]) (vp_Si (fun r : Int32 => r = nI (olS sg))) 0 0 (fun _ => False) := by
  refine Met.ofW (cc := cX4_openLines) (maxL := 1) (ret := (some .int)) (by decide) rfl ?_
  intro p e s m args below meth c s₁ B hml hv
  obtain ⟨ha, hP, hK, hN⟩ := hv
  subst ha
  have hx := B.exec
  have hb := B.bytes
  have hr := B.returns
  have hts := atoms_spec (ws := wsX4_openLines) B.pre
  have hown : s.vm.findClass RX4 = some m.cls := findClass_of_methodNamed B.named
  have hlocks := B.notSynchronized
  have hiX4 : ∀ w ∈ wsX40, w ∈ wsX4_openLines := fun w h9 => List.mem_cons_of_mem _ (List.mem_append_left _ (List.mem_append_right _ (h9)))
  have k10 := hts (.fieldLink RX4 10 "WovenHistory" "now" "LWovenHistory$Weave;") (List.mem_of_getElem? (i := 1) rfl)
  have hl := lv_entry ([.ref (h 0)]) (n := 1) (Nat.le_of_ble_eq_true rfl)
  rw [lg_entry_eq]
  generalize (lg_sl ([.ref (h 0)]) ++ List.replicate (1 - (lg_sl ([.ref (h 0)])).length) Slot.unset).toArray = ls at hl ⊢
  have hl : lv_has ls 1 [(0, .ref (h 0))] := hl
  refine lv_aload_n hx hb dX4_openLines_0 rfl (lv_at hl 0 rfl) ?_
  refine va_get (D := gD G) (ci := 4) (v := .ref (h 10)) (C := RX4) (T := TX4) (N := 9) hx hb hts hiX4 hown hK hP 0 (xp_0 _ _ _ _ _ _ _ _ _ _ _ _) rfl 0 (by decide) k10 (fun _ h9 => h9) rfl dX4_openLines_1 ?_
  refine lv_aload_n hx hb dX4_openLines_4 rfl (lv_at hl 0 rfl) ?_
  refine cRi (w := xw G h x wn wa w0 w1 rd wr z jj lt) (As := []) (rest := [.ref (h 10)]) ⟨hx, hb, hml, hown, hts⟩ (mt_X4_openChangesF l G h x wn wa w0 w1 rd wr z jj lt sg (by first | assumption | omega) (by first | assumption | omega) (by first | assumption | omega)) (cwV 0 hts gX4_openLines_X4_openChanges rfl rfl rfl ⟨rfl, hd_X4_openChanges⟩ ⟨Nat.le_of_ble_eq_true rfl, Nat.le_of_ble_eq_true rfl⟩) hK hN hP 0 4 rfl rfl rfl hl.1 rfl (Nat.le_of_ble_eq_true rfl) ⟨Nat.zero_le _, Nat.zero_le _⟩ dX4_openLines_5 (fun r5 hw5 => ?_)
  obtain rfl := hw5
  refine cRi (w := wv G (fun k => h (10 + k)) wn) (As := [.int (cvS sg (sg.1 0))]) (rest := []) ⟨hx, hb, hml, hown, hts⟩ (mt_X3_countStanding l G (fun k => h (10 + k)) wn (sg.1 4) (cvS sg (sg.1 0)) (hCW.2.1) (by first | assumption | omega)) (cwV 1 hts gX4_openLines_X3_countStanding rfl rfl rfl ⟨rfl, hd_X3_countStanding⟩ ⟨Nat.le_of_ble_eq_true rfl, Nat.le_of_ble_eq_true rfl⟩) hK hN (hP.sub [3, 4, 5, 6, 7, 8, 9, 10] (xf_now _ _ _ _ _ _ _ _ _ _ _ _)) 0 3 rfl rfl rfl hl.1 rfl (Nat.le_of_ble_eq_true rfl) ⟨Nat.zero_le _, Nat.zero_le _⟩ dX4_openLines_8 (fun r8 hw8 => ?_)
  obtain rfl := hw8
  have hc8 := cnt_le (sdb (wn.2 7) (wn.2 8) (cvS sg (sg.1 0))) (sg.1 4)
  exact W.iret (v := nI (cnt (sdb (wn.2 7) (wn.2 8) (cvS sg (sg.1 0))) (sg.1 4))) hx hb hr (fun t ht hW => ⟨nI (cnt (sdb (wn.2 7) (wn.2 8) (cvS sg (sg.1 0))) (sg.1 4)), rfl, congrArg nI (hCW.nl _), ht⟩) (fun _ h9 => by cases h9) dX4_openLines_11
set_option maxHeartbeats 1000000 in
set_option maxRecDepth 100000 in
theorem mt_X4_textS (l : Launch) (G : gG) (h : Nat → Nat) (x : oS) (wn : oS) (wa : oS) (w0 : oS) (w1 : oS) (rd : oS) (wr : oS) (z : oS) (jj : Nat → Nat → Int64) (lt : Int64) (sg : pS) (zz : Nat → Nat → Int64) (a : Int32) (i : Int32) (what : Int32) (hIS : IS sg) (hRX : RepX x wn wa w0 w1 rd z jj sg zz) : Met l yX4_text wsX4_text ({ frames := 2, cells := 0, slots := 0, locals := 46 }) (preR G (xw G h x wn wa w0 w1 rd wr z jj lt) [.ref (h 0), .int a, .int i, .int what]) (vp_Si (fun r : Int32 => r = txtA sg a i what)) 0 0 (fun _ => False) := by
  refine Met.ofW (cc := cX4_text) (maxL := 5) (ret := (some .int)) (by decide) rfl ?_
  intro p e s m args below meth c s₁ B hml hv
  obtain ⟨ha, hP, hK, hN⟩ := hv
  subst ha
  have hx := B.exec
  have hb := B.bytes
  have hr := B.returns
  have hts := atoms_spec (ws := wsX4_text) B.pre
  have hown : s.vm.findClass RX4 = some m.cls := findClass_of_methodNamed B.named
  have hlocks := B.notSynchronized
  have hiX4 : ∀ w ∈ wsX40, w ∈ wsX4_text := fun w h9 => List.mem_cons_of_mem _ (List.mem_append_left _ (List.mem_append_right _ (h9)))
  have k10 := hts (.fieldLink RX4 10 "WovenHistory" "now" "LWovenHistory$Weave;") (List.mem_of_getElem? (i := 1) rfl)
  have k48 := hts (.fieldLink RX4 48 "WovenHistory" "opened" "Z") (List.mem_of_getElem? (i := 4) rfl)
  have hiX3 : ∀ w ∈ wsX30, w ∈ wsX4_text := fun w h9 => List.mem_cons_of_mem _ (List.mem_append_right _ (h9))
  have k82 : (Cond.fieldLinkNest "WovenHistory" 82 "WovenHistory$Weave" "versions" "I" "WovenHistory").before _ s = true := va_Nw.use (A := ([.ref (h 0), .int a, .int i, .int what] : List Value).toArray) rfl (hN.1 ("WovenHistory", 82, "WovenHistory$Weave", "versions", "I") (List.mem_of_getElem? (i := 12) rfl))
  have k136 : (Cond.fieldLinkNest "WovenHistory" 136 "WovenHistory$Weave" "sign" "[I" "WovenHistory").before _ s = true := va_Nw.use (A := ([.ref (h 0), .int a, .int i, .int what] : List Value).toArray) rfl (hN.1 ("WovenHistory", 136, "WovenHistory$Weave", "sign", "[I") (List.mem_of_getElem? (i := 4) rfl))
  have k139 : (Cond.fieldLinkNest "WovenHistory" 139 "WovenHistory$Weave" "brought" "[I" "WovenHistory").before _ s = true := va_Nw.use (A := ([.ref (h 0), .int a, .int i, .int what] : List Value).toArray) rfl (hN.1 ("WovenHistory", 139, "WovenHistory$Weave", "brought", "[I") (List.mem_of_getElem? (i := 5) rfl))
  have hl := lv_entry ([.ref (h 0), .int a, .int i, .int what]) (n := 5) (Nat.le_of_ble_eq_true rfl)
  rw [lg_entry_eq]
  generalize (lg_sl ([.ref (h 0), .int a, .int i, .int what]) ++ List.replicate (5 - (lg_sl ([.ref (h 0), .int a, .int i, .int what])).length) Slot.unset).toArray = ls at hl ⊢
  have hl : lv_has ls 5 [(0, .ref (h 0)), (1, .int a), (2, .int i), (3, .int what)] := hl
  have hC := hRX.1
  have hic := hIS.ic
  have hv24 := hIS.1
  have hl120 := hIS.2.1
  have ho1 := hIS.2.2.1
  refine lv_iload_n hx hb dX4_text_0 rfl (lv_at hl 1 rfl) ?_
  refine lv_iconst (v := (-1 : Int32)) hx hb dX4_text_1 (by decide) ?_
  refine lv_icmp_eq (tgt := 19) hx hb dX4_text_2 (by decide) (fun c2 => ?_) (fun c2 => ?_)
  · skip
    subst c2
    refine lv_iload_n hx hb dX4_text_19 rfl (lv_at hl 2 rfl) ?_
    refine lv_if_lt (tgt := 32) hx hb dX4_text_20 (by decide) (fun c20 => ?_) (fun c20 => ?_)
    · skip
      refine lv_ldc (v := (-1000000002 : Int32)) hx hb hown (hts (.constant RX4 56 (-1000000002)) (List.mem_of_getElem? (i := 3) rfl)) dX4_text_32 ?_
      exact W.iret (v := (-1000000002 : Int32)) hx hb hr (fun t ht hW => ⟨(-1000000002 : Int32), rfl, by rw [txtA, if_neg (fun q => q.1 rfl), if_pos (by first | exact Or.inl c20 | exact Or.inr (w3_n1 c24) | exact Or.inr (w3_n2 c29))], ht⟩) (fun _ h9 => by cases h9) dX4_text_34
    · skip
      obtain ⟨i20, hi20, rfl⟩ := nI_of1 c20
      refine lv_iload_n hx hb dX4_text_23 rfl (lv_at hl 3 rfl) ?_
      refine lv_if_lt (tgt := 32) hx hb dX4_text_24 (by decide) (fun c24 => ?_) (fun c24 => ?_)
      · skip
        refine lv_ldc (v := (-1000000002 : Int32)) hx hb hown (hts (.constant RX4 56 (-1000000002)) (List.mem_of_getElem? (i := 3) rfl)) dX4_text_32 ?_
        exact W.iret (v := (-1000000002 : Int32)) hx hb hr (fun t ht hW => ⟨(-1000000002 : Int32), rfl, by rw [txtA, if_neg (fun q => q.1 rfl), if_pos (by first | exact Or.inl c20 | exact Or.inr (w3_n1 c24) | exact Or.inr (w3_n2 c29))], ht⟩) (fun _ h9 => by cases h9) dX4_text_34
      · skip
        refine lv_iload_n hx hb dX4_text_27 rfl (lv_at hl 3 rfl) ?_
        refine lv_iconst (v := nI 2) hx hb dX4_text_28 (by decide) ?_
        refine lv_icmp_le (tgt := 35) hx hb dX4_text_29 (by decide) (fun c29 => ?_) (fun c29 => ?_)
        · skip
          refine lv_iload_n hx hb dX4_text_35 rfl (lv_at hl 1 rfl) ?_
          refine lv_iconst (v := (-1 : Int32)) hx hb dX4_text_36 (by decide) ?_
          refine lv_icmp_ne (tgt := 50) hx hb dX4_text_37 (by decide) (fun c9 => absurd (by decide) c9) (fun _ => ?_)
          refine lv_aload_n hx hb dX4_text_40 rfl (lv_at hl 0 rfl) ?_
          refine va_get (D := gD G) (ci := 4) (v := .int (x.1 7)) (C := RX4) (T := TX4) (N := 9) hx hb hts hiX4 hown hK hP 0 (xp_0 _ _ _ _ _ _ _ _ _ _ _ _) rfl 7 (by decide) k48 (fun _ h9 => h9) rfl dX4_text_41 ?_
          refine topE hRX.2.1 ?_
          refine lv_if_ne (tgt := 50) hx hb dX4_text_44 (by decide) (fun c44 => ?_) (fun c44 => ?_)
          · skip
            have n44 : ¬ ((sg.1 8) = 0) := fun q9 => c44 ((nI_eq (a := sg.1 8) (b := 0) (by omega) (by omega)).mpr q9)
            have hv23 : sg.1 0 < 24 := hIS.2.2.2.1 (by omega)
            refine lv_aload_n hx hb dX4_text_50 rfl (lv_at hl 0 rfl) ?_
            refine va_get (D := gD G) (ci := 4) (v := .ref (h 10)) (C := RX4) (T := TX4) (N := 9) hx hb hts hiX4 hown hK hP 0 (xp_0 _ _ _ _ _ _ _ _ _ _ _ _) rfl 0 (by decide) k10 (fun _ h9 => h9) rfl dX4_text_51 ?_
            refine lv_aload_n hx hb dX4_text_54 rfl (lv_at hl 0 rfl) ?_
            refine va_get (D := gD G) (ci := 4) (v := .ref (h 10)) (C := RX4) (T := TX4) (N := 9) hx hb hts hiX4 hown hK hP 0 (xp_0 _ _ _ _ _ _ _ _ _ _ _ _) rfl 0 (by decide) k10 (fun _ h9 => h9) rfl dX4_text_55 ?_
            refine lv_iload_n hx hb dX4_text_58 rfl (lv_at hl 1 rfl) ?_
            refine lv_iconst (v := (-1 : Int32)) hx hb dX4_text_59 (by decide) ?_
            refine lv_icmp_ne (tgt := 73) hx hb dX4_text_60 (by decide) (fun c9 => absurd (by decide) c9) (fun _ => ?_)
            refine lv_aload_n hx hb dX4_text_63 rfl (lv_at hl 0 rfl) ?_
            refine va_get (D := gD G) (ci := 4) (v := .ref (h 10)) (C := RX4) (T := TX4) (N := 9) hx hb hts hiX4 hown hK hP 0 (xp_0 _ _ _ _ _ _ _ _ _ _ _ _) rfl 0 (by decide) k10 (fun _ h9 => h9) rfl dX4_text_64 ?_
            refine va_getN (D := gD G) (ci := 3) (v := .int (wn.1 0)) (C := RX3) (T := TX3) (N := 9) hx hb hts hiX3 hown hK hP 3 (xp_3 _ _ _ _ _ _ _ _ _ _ _ _) rfl 0 (by decide) k82 (fun _ h9 => h9) rfl dX4_text_67 ?_
            refine topE hC.1 ?_
            refine lv_goto (tgt := 74) hx hb dX4_text_70 (by decide) ?_
            refine cRi (w := wv G (fun k => h (10 + k)) wn) (As := [.int (nI (sg.1 0))]) (rest := [.ref (h 10)]) ⟨hx, hb, hml, hown, hts⟩ (mt_X3_changesOfN l G (fun k => h (10 + k)) wn (sg.1 0) (by first | assumption | omega)) (cwV 1 hts gX4_text_X3_changesOf rfl rfl rfl ⟨rfl, hd_X3_changesOf⟩ ⟨Nat.le_of_ble_eq_true rfl, Nat.le_of_ble_eq_true rfl⟩) hK hN (hP.sub [3, 4, 5, 6, 7, 8, 9, 10] (xf_now _ _ _ _ _ _ _ _ _ _ _ _)) 0 3 rfl rfl rfl hl.1 rfl (Nat.le_of_ble_eq_true rfl) ⟨Nat.zero_le _, Nat.zero_le _⟩ dX4_text_74 (fun r74 hw74 => ?_)
            obtain rfl := hw74
            refine lv_iload_n hx hb dX4_text_77 rfl (lv_at hl 2 rfl) ?_
            refine cRi (w := wv G (fun k => h (10 + k)) wn) (As := [.int (wn.2 4 (sg.1 0)), .int (nI i20)]) (rest := []) ⟨hx, hb, hml, hown, hts⟩ (mt_X3_findStandingF l G (fun k => h (10 + k)) wn (sg.1 4) (wn.2 4 (sg.1 0)) i20 (hC.2.1) (by first | assumption | omega) (by omega)) (cwV 2 hts gX4_text_X3_findStanding rfl rfl rfl ⟨rfl, hd_X3_findStanding⟩ ⟨Nat.le_of_ble_eq_true rfl, Nat.le_of_ble_eq_true rfl⟩) hK hN (hP.sub [3, 4, 5, 6, 7, 8, 9, 10] (xf_now _ _ _ _ _ _ _ _ _ _ _ _)) 0 3 rfl rfl rfl hl.1 rfl (Nat.le_of_ble_eq_true rfl) ⟨Nat.zero_le _, Nat.zero_le _⟩ dX4_text_78 (fun r78 hw78 => ?_)
            rcases hw78 with ⟨i78, hi78, hp78, hq78, rfl⟩ | ⟨hq78, rfl⟩
            · skip
              refine lv_istore (lv' := [(4, .int (nI (i78))), (0, .ref (h 0)), (1, .int (-1 : Int32)), (2, .int (nI i20)), (3, .int what)]) hx hb dX4_text_81 hl (by decide) rfl (fun ls hl => ?_)
              refine lv_aload_n hx hb dX4_text_83 rfl (lv_at hl 1 rfl) ?_
              refine va_get (D := gD G) (ci := 4) (v := .ref (h 10)) (C := RX4) (T := TX4) (N := 9) hx hb hts hiX4 hown hK hP 0 (xp_0 _ _ _ _ _ _ _ _ _ _ _ _) rfl 0 (by decide) k10 (fun _ h9 => h9) rfl dX4_text_84 ?_
              refine lv_iload hx hb dX4_text_87 (lv_at hl 0 rfl) ?_
              refine cRi (w := wv G (fun k => h (10 + k)) wn) (As := [.int (nI (i78))]) (rest := []) ⟨hx, hb, hml, hown, hts⟩ (mt_X3_hasLine l G (fun k => h (10 + k)) wn (sg.1 4) (nI (i78)) (hC.2.1) (by first | assumption | omega)) (cwV 1 hts gX4_text_X3_hasLine rfl rfl rfl ⟨rfl, hd_X3_hasLine⟩ ⟨Nat.le_of_ble_eq_true rfl, Nat.le_of_ble_eq_true rfl⟩) hK hN (hP.sub [3, 4, 5, 6, 7, 8, 9, 10] (xf_now _ _ _ _ _ _ _ _ _ _ _ _)) 0 3 rfl rfl rfl hl.1 rfl (Nat.le_of_ble_eq_true rfl) ⟨Nat.zero_le _, Nat.zero_le _⟩ dX4_text_89 (fun r89 hw89 => ?_)
              rcases hw89 with ⟨rfl, j89, hj89, ej89⟩ | ⟨rfl, hn89⟩
              · skip
                refine lv_if_ne (tgt := 97) hx hb dX4_text_92 (by decide) (fun _ => ?_) (fun c9 => absurd c9 (by decide))
                refine lv_iload_n hx hb dX4_text_97 rfl (lv_at hl 4 rfl) ?_
                by_cases q98_0 : what = 0
                · skip
                  subst q98_0
                  refine lv_lookup (tgt := 124) hx hb dX4_text_98 (by decide) rfl (by decide) ?_
                  refine lv_aload_n hx hb dX4_text_124 rfl (lv_at hl 1 rfl) ?_
                  refine va_get (D := gD G) (ci := 4) (v := .ref (h 10)) (C := RX4) (T := TX4) (N := 9) hx hb hts hiX4 hown hK hP 0 (xp_0 _ _ _ _ _ _ _ _ _ _ _ _) rfl 0 (by decide) k10 (fun _ h9 => h9) rfl dX4_text_125 ?_
                  refine va_getN (D := gD G) (ci := 3) (v := .ref (h 16)) (C := RX3) (T := TX3) (N := 9) hx hb hts hiX3 hown hK hP 3 (xp_3 _ _ _ _ _ _ _ _ _ _ _ _) rfl 6 (by decide) k136 (fun _ h9 => h9) rfl dX4_text_128 ?_
                  refine lv_iload hx hb dX4_text_131 (lv_at hl 0 rfl) ?_
                  refine ialdN (f := wn.2 6) (n := 120) (k := i78) hx hb hK hP 8 (xp_8 _ _ _ _ _ _ _ _ _ _ _ _) rfl (by omega) dX4_text_133 ?_
                  exact W.iret (v := (wn.2 6) i78) hx hb hr (fun t ht hW => ⟨(wn.2 6) i78, rfl, by rw [txtA, if_neg (fun q => q.1 rfl), if_neg (fun q => by rcases q with q | q; exact nI_pos (by omega) q; exact q (w3_y c24 c29)), if_neg (fun q => n44 q.2), if_pos rfl, vN_n' (j := i20) (by omega), txtB, show fndN (sdS sg (cvS sg (sg.1 0))) (sg.1 4) i20 = i78 from hC.fv (by omega) hi78 hp78 hq78, if_pos hi78, if_pos rfl]; exact hC.2.2.2.2.2.2.1 i78 hi78, ht⟩) (fun _ h9 => by cases h9) dX4_text_134
                by_cases q98_1 : what = 1
                · skip
                  subst q98_1
                  refine lv_lookup (tgt := 135) hx hb dX4_text_98 (by decide) rfl (by decide) ?_
                  refine lv_aload_n hx hb dX4_text_135 rfl (lv_at hl 1 rfl) ?_
                  refine va_get (D := gD G) (ci := 4) (v := .ref (h 10)) (C := RX4) (T := TX4) (N := 9) hx hb hts hiX4 hown hK hP 0 (xp_0 _ _ _ _ _ _ _ _ _ _ _ _) rfl 0 (by decide) k10 (fun _ h9 => h9) rfl dX4_text_136 ?_
                  refine va_getN (D := gD G) (ci := 3) (v := .ref (h 17)) (C := RX3) (T := TX3) (N := 9) hx hb hts hiX3 hown hK hP 3 (xp_3 _ _ _ _ _ _ _ _ _ _ _ _) rfl 7 (by decide) k139 (fun _ h9 => h9) rfl dX4_text_139 ?_
                  refine lv_iload hx hb dX4_text_142 (lv_at hl 0 rfl) ?_
                  refine ialdN (f := wn.2 7) (n := 120) (k := i78) hx hb hK hP 9 (xp_9 _ _ _ _ _ _ _ _ _ _ _ _) rfl (by omega) dX4_text_144 ?_
                  exact W.iret (v := (wn.2 7) i78) hx hb hr (fun t ht hW => ⟨(wn.2 7) i78, rfl, by rw [txtA, if_neg (fun q => q.1 rfl), if_neg (fun q => by rcases q with q | q; exact nI_pos (by omega) q; exact q (w3_y c24 c29)), if_neg (fun q => n44 q.2), if_pos rfl, vN_n' (j := i20) (by omega), txtB, show fndN (sdS sg (cvS sg (sg.1 0))) (sg.1 4) i20 = i78 from hC.fv (by omega) hi78 hp78 hq78, if_pos hi78, if_neg (by decide), if_pos rfl]; exact hC.2.2.2.2.2.2.2.1 i78 hi78, ht⟩) (fun _ h9 => by cases h9) dX4_text_145
                refine lv_lookup (off := 48) (tgt := 146) hx hb dX4_text_98 (by decide) ((lv_osw q98_0 rfl).trans ((lv_osw q98_1 rfl).trans (rfl))) (by decide) ?_
                refine lv_iload hx hb dX4_text_146 (lv_at hl 0 rfl) ?_
                exact W.iret (v := nI (i78)) hx hb hr (fun t ht hW => ⟨nI (i78), rfl, by rw [txtA, if_neg (fun q => q.1 rfl), if_neg (fun q => by rcases q with q | q; exact nI_pos (by omega) q; exact q (w3_y c24 c29)), if_neg (fun q => n44 q.2), if_pos rfl, vN_n' (j := i20) (by omega), txtB, show fndN (sdS sg (cvS sg (sg.1 0))) (sg.1 4) i20 = i78 from hC.fv (by omega) hi78 hp78 hq78, if_pos hi78, if_neg q98_0, if_neg q98_1], ht⟩) (fun _ h9 => by cases h9) dX4_text_148
              · skip
                exact absurd rfl (hn89 i78 hi78)
            · skip
              refine lv_istore (lv' := [(4, .int (-1 : Int32)), (0, .ref (h 0)), (1, .int (-1 : Int32)), (2, .int (nI i20)), (3, .int what)]) hx hb dX4_text_81 hl (by decide) rfl (fun ls hl => ?_)
              refine lv_aload_n hx hb dX4_text_83 rfl (lv_at hl 1 rfl) ?_
              refine va_get (D := gD G) (ci := 4) (v := .ref (h 10)) (C := RX4) (T := TX4) (N := 9) hx hb hts hiX4 hown hK hP 0 (xp_0 _ _ _ _ _ _ _ _ _ _ _ _) rfl 0 (by decide) k10 (fun _ h9 => h9) rfl dX4_text_84 ?_
              refine lv_iload hx hb dX4_text_87 (lv_at hl 0 rfl) ?_
              refine cRi (w := wv G (fun k => h (10 + k)) wn) (As := [.int (-1 : Int32)]) (rest := []) ⟨hx, hb, hml, hown, hts⟩ (mt_X3_hasLine l G (fun k => h (10 + k)) wn (sg.1 4) (-1 : Int32) (hC.2.1) (by first | assumption | omega)) (cwV 1 hts gX4_text_X3_hasLine rfl rfl rfl ⟨rfl, hd_X3_hasLine⟩ ⟨Nat.le_of_ble_eq_true rfl, Nat.le_of_ble_eq_true rfl⟩) hK hN (hP.sub [3, 4, 5, 6, 7, 8, 9, 10] (xf_now _ _ _ _ _ _ _ _ _ _ _ _)) 0 3 rfl rfl rfl hl.1 rfl (Nat.le_of_ble_eq_true rfl) ⟨Nat.zero_le _, Nat.zero_le _⟩ dX4_text_89 (fun r89 hw89 => ?_)
              rcases hw89 with ⟨rfl, j89, hj89, ej89⟩ | ⟨rfl, hn89⟩
              · skip
                exact absurd ej89.symm (nI_nm1 (by omega))
              · skip
                refine lv_if_ne (tgt := 97) hx hb dX4_text_92 (by decide) (fun c9 => absurd (by decide) c9) (fun _ => ?_)
                refine lv_iconst (v := (-1 : Int32)) hx hb dX4_text_95 (by decide) ?_
                exact W.iret (v := (-1 : Int32)) hx hb hr (fun t ht hW => ⟨(-1 : Int32), rfl, by rw [txtA, if_neg (fun q => q.1 rfl), if_neg (fun q => by rcases q with q | q; exact nI_pos (by omega) q; exact q (w3_y c24 c29)), if_neg (fun q => n44 q.2), if_pos rfl, vN_n' (j := i20) (by omega), txtB, show fndN (sdS sg (cvS sg (sg.1 0))) (sg.1 4) i20 = sg.1 4 from hC.fm (by omega) hq78, if_neg (Nat.lt_irrefl _)], ht⟩) (fun _ h9 => by cases h9) dX4_text_96
          · skip
            have n44 : (sg.1 8) = 0 := (nI_eq (a := sg.1 8) (b := 0) (by omega) (by omega)).mp c44
            refine lv_ldc (v := (-1000000003 : Int32)) hx hb hown (hts (.constant RX4 148 (-1000000003)) (List.mem_of_getElem? (i := 5) rfl)) dX4_text_47 ?_
            exact W.iret (v := (-1000000003 : Int32)) hx hb hr (fun t ht hW => ⟨(-1000000003 : Int32), rfl, by rw [txtA, if_neg (fun q => q.1 rfl), if_neg (fun q => by rcases q with q | q; exact nI_pos (by omega) q; exact q (w3_y c24 c29)), if_pos ⟨rfl, n44⟩], ht⟩) (fun _ h9 => by cases h9) dX4_text_49
        · skip
          refine lv_ldc (v := (-1000000002 : Int32)) hx hb hown (hts (.constant RX4 56 (-1000000002)) (List.mem_of_getElem? (i := 3) rfl)) dX4_text_32 ?_
          exact W.iret (v := (-1000000002 : Int32)) hx hb hr (fun t ht hW => ⟨(-1000000002 : Int32), rfl, by rw [txtA, if_neg (fun q => q.1 rfl), if_pos (by first | exact Or.inl c20 | exact Or.inr (w3_n1 c24) | exact Or.inr (w3_n2 c29))], ht⟩) (fun _ h9 => by cases h9) dX4_text_34
  · skip
    refine lv_aload_n hx hb dX4_text_5 rfl (lv_at hl 0 rfl) ?_
    refine va_get (D := gD G) (ci := 4) (v := .ref (h 10)) (C := RX4) (T := TX4) (N := 9) hx hb hts hiX4 hown hK hP 0 (xp_0 _ _ _ _ _ _ _ _ _ _ _ _) rfl 0 (by decide) k10 (fun _ h9 => h9) rfl dX4_text_6 ?_
    refine lv_iload_n hx hb dX4_text_9 rfl (lv_at hl 1 rfl) ?_
    refine cRi (w := wv G (fun k => h (10 + k)) wn) (As := [.int a]) (rest := []) ⟨hx, hb, hml, hown, hts⟩ (mt_X3_hasVersion l G (fun k => h (10 + k)) wn (sg.1 0) a (hC.1) (by first | assumption | omega)) (cwV 1 hts gX4_text_X3_hasVersion rfl rfl rfl ⟨rfl, hd_X3_hasVersion⟩ ⟨Nat.le_of_ble_eq_true rfl, Nat.le_of_ble_eq_true rfl⟩) hK hN (hP.sub [3, 4, 5, 6, 7, 8, 9, 10] (xf_now _ _ _ _ _ _ _ _ _ _ _ _)) 0 3 rfl rfl rfl hl.1 rfl (Nat.le_of_ble_eq_true rfl) ⟨Nat.zero_le _, Nat.zero_le _⟩ dX4_text_10 (fun r10 hw10 => ?_)
    rcases hw10 with ⟨rfl, a1, ha1, rfl⟩ | ⟨rfl, hna1⟩
    · skip
      refine lv_if_ne (tgt := 19) hx hb dX4_text_13 (by decide) (fun _ => ?_) (fun c9 => absurd c9 (by decide))
      refine lv_iload_n hx hb dX4_text_19 rfl (lv_at hl 2 rfl) ?_
      refine lv_if_lt (tgt := 32) hx hb dX4_text_20 (by decide) (fun c20 => ?_) (fun c20 => ?_)
      · skip
        refine lv_ldc (v := (-1000000002 : Int32)) hx hb hown (hts (.constant RX4 56 (-1000000002)) (List.mem_of_getElem? (i := 3) rfl)) dX4_text_32 ?_
        exact W.iret (v := (-1000000002 : Int32)) hx hb hr (fun t ht hW => ⟨(-1000000002 : Int32), rfl, by rw [txtA, if_neg (fun q => q.2 (inR_t ha1 (by omega))), if_pos (by first | exact Or.inl c20 | exact Or.inr (w3_n1 c24) | exact Or.inr (w3_n2 c29))], ht⟩) (fun _ h9 => by cases h9) dX4_text_34
      · skip
        obtain ⟨i20, hi20, rfl⟩ := nI_of1 c20
        refine lv_iload_n hx hb dX4_text_23 rfl (lv_at hl 3 rfl) ?_
        refine lv_if_lt (tgt := 32) hx hb dX4_text_24 (by decide) (fun c24 => ?_) (fun c24 => ?_)
        · skip
          refine lv_ldc (v := (-1000000002 : Int32)) hx hb hown (hts (.constant RX4 56 (-1000000002)) (List.mem_of_getElem? (i := 3) rfl)) dX4_text_32 ?_
          exact W.iret (v := (-1000000002 : Int32)) hx hb hr (fun t ht hW => ⟨(-1000000002 : Int32), rfl, by rw [txtA, if_neg (fun q => q.2 (inR_t ha1 (by omega))), if_pos (by first | exact Or.inl c20 | exact Or.inr (w3_n1 c24) | exact Or.inr (w3_n2 c29))], ht⟩) (fun _ h9 => by cases h9) dX4_text_34
        · skip
          refine lv_iload_n hx hb dX4_text_27 rfl (lv_at hl 3 rfl) ?_
          refine lv_iconst (v := nI 2) hx hb dX4_text_28 (by decide) ?_
          refine lv_icmp_le (tgt := 35) hx hb dX4_text_29 (by decide) (fun c29 => ?_) (fun c29 => ?_)
          · skip
            refine lv_iload_n hx hb dX4_text_35 rfl (lv_at hl 1 rfl) ?_
            refine lv_iconst (v := (-1 : Int32)) hx hb dX4_text_36 (by decide) ?_
            refine lv_icmp_ne (tgt := 50) hx hb dX4_text_37 (by decide) (fun _ => ?_) (fun c9 => absurd c9 (nI_nm1 (by omega)))
            refine lv_aload_n hx hb dX4_text_50 rfl (lv_at hl 0 rfl) ?_
            refine va_get (D := gD G) (ci := 4) (v := .ref (h 10)) (C := RX4) (T := TX4) (N := 9) hx hb hts hiX4 hown hK hP 0 (xp_0 _ _ _ _ _ _ _ _ _ _ _ _) rfl 0 (by decide) k10 (fun _ h9 => h9) rfl dX4_text_51 ?_
            refine lv_aload_n hx hb dX4_text_54 rfl (lv_at hl 0 rfl) ?_
            refine va_get (D := gD G) (ci := 4) (v := .ref (h 10)) (C := RX4) (T := TX4) (N := 9) hx hb hts hiX4 hown hK hP 0 (xp_0 _ _ _ _ _ _ _ _ _ _ _ _) rfl 0 (by decide) k10 (fun _ h9 => h9) rfl dX4_text_55 ?_
            refine lv_iload_n hx hb dX4_text_58 rfl (lv_at hl 1 rfl) ?_
            refine lv_iconst (v := (-1 : Int32)) hx hb dX4_text_59 (by decide) ?_
            refine lv_icmp_ne (tgt := 73) hx hb dX4_text_60 (by decide) (fun _ => ?_) (fun c9 => absurd c9 (nI_nm1 (by omega)))
            refine lv_iload_n hx hb dX4_text_73 rfl (lv_at hl 1 rfl) ?_
            refine cRi (w := wv G (fun k => h (10 + k)) wn) (As := [.int (nI a1)]) (rest := [.ref (h 10)]) ⟨hx, hb, hml, hown, hts⟩ (mt_X3_changesOfN l G (fun k => h (10 + k)) wn a1 (by first | assumption | omega)) (cwV 1 hts gX4_text_X3_changesOf rfl rfl rfl ⟨rfl, hd_X3_changesOf⟩ ⟨Nat.le_of_ble_eq_true rfl, Nat.le_of_ble_eq_true rfl⟩) hK hN (hP.sub [3, 4, 5, 6, 7, 8, 9, 10] (xf_now _ _ _ _ _ _ _ _ _ _ _ _)) 0 3 rfl rfl rfl hl.1 rfl (Nat.le_of_ble_eq_true rfl) ⟨Nat.zero_le _, Nat.zero_le _⟩ dX4_text_74 (fun r74 hw74 => ?_)
            obtain rfl := hw74
            refine lv_iload_n hx hb dX4_text_77 rfl (lv_at hl 2 rfl) ?_
            refine cRi (w := wv G (fun k => h (10 + k)) wn) (As := [.int (wn.2 4 a1), .int (nI i20)]) (rest := []) ⟨hx, hb, hml, hown, hts⟩ (mt_X3_findStandingF l G (fun k => h (10 + k)) wn (sg.1 4) (wn.2 4 a1) i20 (hC.2.1) (by first | assumption | omega) (by omega)) (cwV 2 hts gX4_text_X3_findStanding rfl rfl rfl ⟨rfl, hd_X3_findStanding⟩ ⟨Nat.le_of_ble_eq_true rfl, Nat.le_of_ble_eq_true rfl⟩) hK hN (hP.sub [3, 4, 5, 6, 7, 8, 9, 10] (xf_now _ _ _ _ _ _ _ _ _ _ _ _)) 0 3 rfl rfl rfl hl.1 rfl (Nat.le_of_ble_eq_true rfl) ⟨Nat.zero_le _, Nat.zero_le _⟩ dX4_text_78 (fun r78 hw78 => ?_)
            rcases hw78 with ⟨i78, hi78, hp78, hq78, rfl⟩ | ⟨hq78, rfl⟩
            · skip
              refine lv_istore (lv' := [(4, .int (nI (i78))), (0, .ref (h 0)), (1, .int (nI a1)), (2, .int (nI i20)), (3, .int what)]) hx hb dX4_text_81 hl (by decide) rfl (fun ls hl => ?_)
              refine lv_aload_n hx hb dX4_text_83 rfl (lv_at hl 1 rfl) ?_
              refine va_get (D := gD G) (ci := 4) (v := .ref (h 10)) (C := RX4) (T := TX4) (N := 9) hx hb hts hiX4 hown hK hP 0 (xp_0 _ _ _ _ _ _ _ _ _ _ _ _) rfl 0 (by decide) k10 (fun _ h9 => h9) rfl dX4_text_84 ?_
              refine lv_iload hx hb dX4_text_87 (lv_at hl 0 rfl) ?_
              refine cRi (w := wv G (fun k => h (10 + k)) wn) (As := [.int (nI (i78))]) (rest := []) ⟨hx, hb, hml, hown, hts⟩ (mt_X3_hasLine l G (fun k => h (10 + k)) wn (sg.1 4) (nI (i78)) (hC.2.1) (by first | assumption | omega)) (cwV 1 hts gX4_text_X3_hasLine rfl rfl rfl ⟨rfl, hd_X3_hasLine⟩ ⟨Nat.le_of_ble_eq_true rfl, Nat.le_of_ble_eq_true rfl⟩) hK hN (hP.sub [3, 4, 5, 6, 7, 8, 9, 10] (xf_now _ _ _ _ _ _ _ _ _ _ _ _)) 0 3 rfl rfl rfl hl.1 rfl (Nat.le_of_ble_eq_true rfl) ⟨Nat.zero_le _, Nat.zero_le _⟩ dX4_text_89 (fun r89 hw89 => ?_)
              rcases hw89 with ⟨rfl, j89, hj89, ej89⟩ | ⟨rfl, hn89⟩
              · skip
                refine lv_if_ne (tgt := 97) hx hb dX4_text_92 (by decide) (fun _ => ?_) (fun c9 => absurd c9 (by decide))
                refine lv_iload_n hx hb dX4_text_97 rfl (lv_at hl 4 rfl) ?_
                by_cases q98_0 : what = 0
                · skip
                  subst q98_0
                  refine lv_lookup (tgt := 124) hx hb dX4_text_98 (by decide) rfl (by decide) ?_
                  refine lv_aload_n hx hb dX4_text_124 rfl (lv_at hl 1 rfl) ?_
                  refine va_get (D := gD G) (ci := 4) (v := .ref (h 10)) (C := RX4) (T := TX4) (N := 9) hx hb hts hiX4 hown hK hP 0 (xp_0 _ _ _ _ _ _ _ _ _ _ _ _) rfl 0 (by decide) k10 (fun _ h9 => h9) rfl dX4_text_125 ?_
                  refine va_getN (D := gD G) (ci := 3) (v := .ref (h 16)) (C := RX3) (T := TX3) (N := 9) hx hb hts hiX3 hown hK hP 3 (xp_3 _ _ _ _ _ _ _ _ _ _ _ _) rfl 6 (by decide) k136 (fun _ h9 => h9) rfl dX4_text_128 ?_
                  refine lv_iload hx hb dX4_text_131 (lv_at hl 0 rfl) ?_
                  refine ialdN (f := wn.2 6) (n := 120) (k := i78) hx hb hK hP 8 (xp_8 _ _ _ _ _ _ _ _ _ _ _ _) rfl (by omega) dX4_text_133 ?_
                  exact W.iret (v := (wn.2 6) i78) hx hb hr (fun t ht hW => ⟨(wn.2 6) i78, rfl, by rw [txtA, if_neg (fun q => q.2 (inR_t ha1 (by omega))), if_neg (fun q => by rcases q with q | q; exact nI_pos (by omega) q; exact q (w3_y c24 c29)), if_neg (fun q => nI_nm1 (by omega) q.1), if_neg (nI_nm1 (by omega)), vN_n (j := a1) (by omega), vN_n' (j := i20) (by omega), txtB, show fndN (sdS sg (cvS sg a1)) (sg.1 4) i20 = i78 from hC.fv (by omega) hi78 hp78 hq78, if_pos hi78, if_pos rfl]; exact hC.2.2.2.2.2.2.1 i78 hi78, ht⟩) (fun _ h9 => by cases h9) dX4_text_134
                by_cases q98_1 : what = 1
                · skip
                  subst q98_1
                  refine lv_lookup (tgt := 135) hx hb dX4_text_98 (by decide) rfl (by decide) ?_
                  refine lv_aload_n hx hb dX4_text_135 rfl (lv_at hl 1 rfl) ?_
                  refine va_get (D := gD G) (ci := 4) (v := .ref (h 10)) (C := RX4) (T := TX4) (N := 9) hx hb hts hiX4 hown hK hP 0 (xp_0 _ _ _ _ _ _ _ _ _ _ _ _) rfl 0 (by decide) k10 (fun _ h9 => h9) rfl dX4_text_136 ?_
                  refine va_getN (D := gD G) (ci := 3) (v := .ref (h 17)) (C := RX3) (T := TX3) (N := 9) hx hb hts hiX3 hown hK hP 3 (xp_3 _ _ _ _ _ _ _ _ _ _ _ _) rfl 7 (by decide) k139 (fun _ h9 => h9) rfl dX4_text_139 ?_
                  refine lv_iload hx hb dX4_text_142 (lv_at hl 0 rfl) ?_
                  refine ialdN (f := wn.2 7) (n := 120) (k := i78) hx hb hK hP 9 (xp_9 _ _ _ _ _ _ _ _ _ _ _ _) rfl (by omega) dX4_text_144 ?_
                  exact W.iret (v := (wn.2 7) i78) hx hb hr (fun t ht hW => ⟨(wn.2 7) i78, rfl, by rw [txtA, if_neg (fun q => q.2 (inR_t ha1 (by omega))), if_neg (fun q => by rcases q with q | q; exact nI_pos (by omega) q; exact q (w3_y c24 c29)), if_neg (fun q => nI_nm1 (by omega) q.1), if_neg (nI_nm1 (by omega)), vN_n (j := a1) (by omega), vN_n' (j := i20) (by omega), txtB, show fndN (sdS sg (cvS sg a1)) (sg.1 4) i20 = i78 from hC.fv (by omega) hi78 hp78 hq78, if_pos hi78, if_neg (by decide), if_pos rfl]; exact hC.2.2.2.2.2.2.2.1 i78 hi78, ht⟩) (fun _ h9 => by cases h9) dX4_text_145
                refine lv_lookup (off := 48) (tgt := 146) hx hb dX4_text_98 (by decide) ((lv_osw q98_0 rfl).trans ((lv_osw q98_1 rfl).trans (rfl))) (by decide) ?_
                refine lv_iload hx hb dX4_text_146 (lv_at hl 0 rfl) ?_
                exact W.iret (v := nI (i78)) hx hb hr (fun t ht hW => ⟨nI (i78), rfl, by rw [txtA, if_neg (fun q => q.2 (inR_t ha1 (by omega))), if_neg (fun q => by rcases q with q | q; exact nI_pos (by omega) q; exact q (w3_y c24 c29)), if_neg (fun q => nI_nm1 (by omega) q.1), if_neg (nI_nm1 (by omega)), vN_n (j := a1) (by omega), vN_n' (j := i20) (by omega), txtB, show fndN (sdS sg (cvS sg a1)) (sg.1 4) i20 = i78 from hC.fv (by omega) hi78 hp78 hq78, if_pos hi78, if_neg q98_0, if_neg q98_1], ht⟩) (fun _ h9 => by cases h9) dX4_text_148
              · skip
                exact absurd rfl (hn89 i78 hi78)
            · skip
              refine lv_istore (lv' := [(4, .int (-1 : Int32)), (0, .ref (h 0)), (1, .int (nI a1)), (2, .int (nI i20)), (3, .int what)]) hx hb dX4_text_81 hl (by decide) rfl (fun ls hl => ?_)
              refine lv_aload_n hx hb dX4_text_83 rfl (lv_at hl 1 rfl) ?_
              refine va_get (D := gD G) (ci := 4) (v := .ref (h 10)) (C := RX4) (T := TX4) (N := 9) hx hb hts hiX4 hown hK hP 0 (xp_0 _ _ _ _ _ _ _ _ _ _ _ _) rfl 0 (by decide) k10 (fun _ h9 => h9) rfl dX4_text_84 ?_
              refine lv_iload hx hb dX4_text_87 (lv_at hl 0 rfl) ?_
              refine cRi (w := wv G (fun k => h (10 + k)) wn) (As := [.int (-1 : Int32)]) (rest := []) ⟨hx, hb, hml, hown, hts⟩ (mt_X3_hasLine l G (fun k => h (10 + k)) wn (sg.1 4) (-1 : Int32) (hC.2.1) (by first | assumption | omega)) (cwV 1 hts gX4_text_X3_hasLine rfl rfl rfl ⟨rfl, hd_X3_hasLine⟩ ⟨Nat.le_of_ble_eq_true rfl, Nat.le_of_ble_eq_true rfl⟩) hK hN (hP.sub [3, 4, 5, 6, 7, 8, 9, 10] (xf_now _ _ _ _ _ _ _ _ _ _ _ _)) 0 3 rfl rfl rfl hl.1 rfl (Nat.le_of_ble_eq_true rfl) ⟨Nat.zero_le _, Nat.zero_le _⟩ dX4_text_89 (fun r89 hw89 => ?_)
              rcases hw89 with ⟨rfl, j89, hj89, ej89⟩ | ⟨rfl, hn89⟩
              · skip
                exact absurd ej89.symm (nI_nm1 (by omega))
              · skip
                refine lv_if_ne (tgt := 97) hx hb dX4_text_92 (by decide) (fun c9 => absurd (by decide) c9) (fun _ => ?_)
                refine lv_iconst (v := (-1 : Int32)) hx hb dX4_text_95 (by decide) ?_
                exact W.iret (v := (-1 : Int32)) hx hb hr (fun t ht hW => ⟨(-1 : Int32), rfl, by rw [txtA, if_neg (fun q => q.2 (inR_t ha1 (by omega))), if_neg (fun q => by rcases q with q | q; exact nI_pos (by omega) q; exact q (w3_y c24 c29)), if_neg (fun q => nI_nm1 (by omega) q.1), if_neg (nI_nm1 (by omega)), vN_n (j := a1) (by omega), vN_n' (j := i20) (by omega), txtB, show fndN (sdS sg (cvS sg a1)) (sg.1 4) i20 = sg.1 4 from hC.fm (by omega) hq78, if_neg (Nat.lt_irrefl _)], ht⟩) (fun _ h9 => by cases h9) dX4_text_96
          · skip
            refine lv_ldc (v := (-1000000002 : Int32)) hx hb hown (hts (.constant RX4 56 (-1000000002)) (List.mem_of_getElem? (i := 3) rfl)) dX4_text_32 ?_
            exact W.iret (v := (-1000000002 : Int32)) hx hb hr (fun t ht hW => ⟨(-1000000002 : Int32), rfl, by rw [txtA, if_neg (fun q => q.2 (inR_t ha1 (by omega))), if_pos (by first | exact Or.inl c20 | exact Or.inr (w3_n1 c24) | exact Or.inr (w3_n2 c29))], ht⟩) (fun _ h9 => by cases h9) dX4_text_34
    · skip
      refine lv_if_ne (tgt := 19) hx hb dX4_text_13 (by decide) (fun c9 => absurd (by decide) c9) (fun _ => ?_)
      refine lv_ldc (v := (-1000000001 : Int32)) hx hb hown (hts (.constant RX4 110 (-1000000001)) (List.mem_of_getElem? (i := 2) rfl)) dX4_text_16 ?_
      exact W.iret (v := (-1000000001 : Int32)) hx hb hr (fun t ht hW => ⟨(-1000000001 : Int32), rfl, by rw [txtA, if_pos ⟨c2, inR_f (by omega) hna1⟩], ht⟩) (fun _ h9 => by cases h9) dX4_text_18
set_option maxHeartbeats 1000000 in
set_option maxRecDepth 100000 in
theorem mt_X4_nearS (l : Launch) (G : gG) (h : Nat → Nat) (x : oS) (wn : oS) (wa : oS) (w0 : oS) (w1 : oS) (rd : oS) (wr : oS) (z : oS) (jj : Nat → Nat → Int64) (lt : Int64) (sg : pS) (zz : Nat → Nat → Int64) (a : Int32) (b : Int32) (hIS : IS sg) (hRX : RepX x wn wa w0 w1 rd z jj sg zz) : Met l yX4_near wsX4_near ({ frames := 2, cells := 0, slots := 0, locals := 44 }) (preR G (xw G h x wn wa w0 w1 rd wr z jj lt) [.ref (h 0), .int a, .int b]) (vp_Si (fun r : Int32 => r = neaA sg a b)) 0 0 (fun _ => False) := by
  refine Met.ofW (cc := cX4_near) (maxL := 5) (ret := (some .int)) (by decide) rfl ?_
  intro p e s m args below meth c s₁ B hml hv
  obtain ⟨ha, hP, hK, hN⟩ := hv
  subst ha
  have hx := B.exec
  have hb := B.bytes
  have hr := B.returns
  have hts := atoms_spec (ws := wsX4_near) B.pre
  have hown : s.vm.findClass RX4 = some m.cls := findClass_of_methodNamed B.named
  have hlocks := B.notSynchronized
  have hiX4 : ∀ w ∈ wsX40, w ∈ wsX4_near := fun w h9 => List.mem_cons_of_mem _ (List.mem_append_left _ (List.mem_append_right _ (h9)))
  have k10 := hts (.fieldLink RX4 10 "WovenHistory" "now" "LWovenHistory$Weave;") (List.mem_of_getElem? (i := 2) rfl)
  have hl := lv_entry ([.ref (h 0), .int a, .int b]) (n := 5) (Nat.le_of_ble_eq_true rfl)
  rw [lg_entry_eq]
  generalize (lg_sl ([.ref (h 0), .int a, .int b]) ++ List.replicate (5 - (lg_sl ([.ref (h 0), .int a, .int b])).length) Slot.unset).toArray = ls at hl ⊢
  have hl : lv_has ls 5 [(0, .ref (h 0)), (1, .int a), (2, .int b)] := hl
  have hC := hRX.1
  have hic := hIS.ic
  have hv24 := hIS.1
  have hl120 := hIS.2.1
  have ho1 := hIS.2.2.1
  refine lv_aload_n hx hb dX4_near_0 rfl (lv_at hl 0 rfl) ?_
  refine lv_iload_n hx hb dX4_near_1 rfl (lv_at hl 1 rfl) ?_
  refine lv_iload_n hx hb dX4_near_2 rfl (lv_at hl 2 rfl) ?_
  refine cRi (w := xw G h x wn wa w0 w1 rd wr z jj lt) (As := [.int a, .int b]) (rest := []) ⟨hx, hb, hml, hown, hts⟩ (mt_X4_areTwoVersionsS l G h x wn wa w0 w1 rd wr z jj lt sg zz a b hIS hRX) (cwV 2 hts gX4_near_X4_areTwoVersions rfl rfl rfl ⟨rfl, hd_X4_areTwoVersions⟩ ⟨Nat.le_of_ble_eq_true rfl, Nat.le_of_ble_eq_true rfl⟩) hK hN hP 0 4 rfl rfl rfl hl.1 rfl (Nat.le_of_ble_eq_true rfl) ⟨Nat.zero_le _, Nat.zero_le _⟩ dX4_near_3 (fun r3 hw3 => ?_)
  rcases hw3 with ⟨rfl, a1, b1, ha1, hb1, rfl, rfl, hab⟩ | ⟨rfl, hno⟩
  · skip
    refine lv_if_ne (tgt := 12) hx hb dX4_near_6 (by decide) (fun _ => ?_) (fun c9 => absurd c9 (by decide))
    refine lv_aload_n hx hb dX4_near_12 rfl (lv_at hl 0 rfl) ?_
    refine va_get (D := gD G) (ci := 4) (v := .ref (h 10)) (C := RX4) (T := TX4) (N := 9) hx hb hts hiX4 hown hK hP 0 (xp_0 _ _ _ _ _ _ _ _ _ _ _ _) rfl 0 (by decide) k10 (fun _ h9 => h9) rfl dX4_near_13 ?_
    refine lv_iload_n hx hb dX4_near_16 rfl (lv_at hl 1 rfl) ?_
    refine cRi (w := wv G (fun k => h (10 + k)) wn) (As := [.int (nI a1)]) (rest := []) ⟨hx, hb, hml, hown, hts⟩ (mt_X3_lineageOfF l G (fun k => h (10 + k)) wn (sg.1 0) a1 (hC.1) (by first | assumption | omega) (by first | assumption | omega) (hC.pw hic (by omega))) (cwV 1 hts gX4_near_X3_lineageOf rfl rfl rfl ⟨rfl, hd_X3_lineageOf⟩ ⟨Nat.le_of_ble_eq_true rfl, Nat.le_of_ble_eq_true rfl⟩) hK hN (hP.sub [3, 4, 5, 6, 7, 8, 9, 10] (xf_now _ _ _ _ _ _ _ _ _ _ _ _)) 0 3 rfl rfl rfl hl.1 rfl (Nat.le_of_ble_eq_true rfl) ⟨Nat.zero_le _, Nat.zero_le _⟩ dX4_near_17 (fun r17 hw17 => ?_)
    obtain rfl := hw17
    refine lv_aload_n hx hb dX4_near_20 rfl (lv_at hl 0 rfl) ?_
    refine va_get (D := gD G) (ci := 4) (v := .ref (h 10)) (C := RX4) (T := TX4) (N := 9) hx hb hts hiX4 hown hK hP 0 (xp_0 _ _ _ _ _ _ _ _ _ _ _ _) rfl 0 (by decide) k10 (fun _ h9 => h9) rfl dX4_near_21 ?_
    refine lv_iload_n hx hb dX4_near_24 rfl (lv_at hl 2 rfl) ?_
    refine cRi (w := wv G (fun k => h (10 + k)) wn) (As := [.int (nI b1)]) (rest := [.int (eldV (wn.2 1) (nI a1))]) ⟨hx, hb, hml, hown, hts⟩ (mt_X3_lineageOfF l G (fun k => h (10 + k)) wn (sg.1 0) b1 (hC.1) (by first | assumption | omega) (by first | assumption | omega) (hC.pw hic (by omega))) (cwV 1 hts gX4_near_X3_lineageOf rfl rfl rfl ⟨rfl, hd_X3_lineageOf⟩ ⟨Nat.le_of_ble_eq_true rfl, Nat.le_of_ble_eq_true rfl⟩) hK hN (hP.sub [3, 4, 5, 6, 7, 8, 9, 10] (xf_now _ _ _ _ _ _ _ _ _ _ _ _)) 0 3 rfl rfl rfl hl.1 rfl (Nat.le_of_ble_eq_true rfl) ⟨Nat.zero_le _, Nat.zero_le _⟩ dX4_near_25 (fun r25 hw25 => ?_)
    obtain rfl := hw25
    refine lv_iand hx hb dX4_near_28 ?_
    refine lv_istore_n (lv' := [(3, .int ((eldV (wn.2 1) (nI a1)) &&& (eldV (wn.2 1) (nI b1)))), (0, .ref (h 0)), (1, .int (nI a1)), (2, .int (nI b1))]) hx hb dX4_near_29 rfl hl (by decide) rfl (fun ls hl => ?_)
    refine lv_bipush (v := nI 23) hx hb dX4_near_30 (by decide) ?_
    refine lv_istore (lv' := [(4, .int (nI 23)), (3, .int ((eldV (wn.2 1) (nI a1)) &&& (eldV (wn.2 1) (nI b1)))), (0, .ref (h 0)), (1, .int (nI a1)), (2, .int (nI b1))]) hx hb dX4_near_32 hl (by decide) rfl (fun ls hl => ?_)
    have LP34 : ∀ (n34m : Nat), ∀ (kk : Nat) (hkk : kk ≤ 24) (hhi : hiB ((eldV (wn.2 1) (nI a1)) &&& (eldV (wn.2 1) (nI b1))) 24 = hiB ((eldV (wn.2 1) (nI a1)) &&& (eldV (wn.2 1) (nI b1))) kk), (kk < n34m) → ∀ (ls : Array Slot), lv_has ls 5 [(3, .int ((eldV (wn.2 1) (nI a1)) &&& (eldV (wn.2 1) (nI b1)))), (4, .int (nI kk + (-1)))] → W p l e (headSpec wsX4_near ({ frames := 2, cells := 0, slots := 0, locals := 44 })).room s m ([.ref (h 0), .int (nI a1), .int (nI b1)] : List Value).toArray below meth c s.heap [] 0 0 (MQ below (vp_Si (fun r : Int32 => r = neaA sg (nI a1) (nI b1))) ([.ref (h 0), .int (nI a1), .int (nI b1)] : List Value).toArray s 0 0 (fun _ => False)) (F0 m 34 ls []) := by
      intro n34m
      induction n34m with
      | zero => intro kk hkk hhi hmu ls hl; exact absurd hmu (Nat.not_lt_zero _)
      | succ n34m ih34 =>
        intro kk hkk hhi hmu ls hl
        refine lv_iload hx hb dX4_near_34 (lv_at hl 1 rfl) ?_
        refine lv_if_lt (tgt := 57) hx hb dX4_near_36 (by decide) (fun c36 => ?_) (fun c36 => ?_)
        · skip
          have ek : kk = 0 := nI_m1neg (by omega) c36
          refine lv_iconst (v := (-1 : Int32)) hx hb dX4_near_57 (by decide) ?_
          exact W.iret (v := (-1 : Int32)) hx hb hr (fun t ht hW => ⟨(-1 : Int32), rfl, by rw [neaA, if_pos (two_t hv24 ha1 hb1 hab), ← hC.eld hic (i := a1) (by omega), ← hC.eld hic (i := b1) (by omega), hhi, ek]; rfl, ht⟩) (fun _ h9 => by cases h9) dX4_near_58
        · skip
          obtain ⟨k36, rfl⟩ := nI_m1pos c36
          rw [pk_m1] at hl
          refine lv_iload_n hx hb dX4_near_39 rfl (lv_at hl 0 rfl) ?_
          refine lv_iload hx hb dX4_near_40 (lv_at hl 1 rfl) ?_
          refine cSi (As := [.int ((eldV (wn.2 1) (nI a1)) &&& (eldV (wn.2 1) (nI b1))), .int (nI k36)]) (rest := []) ⟨hx, hb, hml, hown, hts⟩ (mt_X3_holdsF l ((eldV (wn.2 1) (nI a1)) &&& (eldV (wn.2 1) (nI b1))) (nI k36)) (va_cwS 2 hts gX4_near_X3_holds rfl rfl rfl hd_X3_holds ⟨Nat.le_of_ble_eq_true rfl, Nat.le_of_ble_eq_true rfl⟩) rfl hl.1 rfl (Nat.le_of_ble_eq_true rfl) ⟨Nat.zero_le _, Nat.zero_le _⟩ dX4_near_42 (fun r42 hw42 => ?_)
          rcases hw42 with ⟨rfl, hy42⟩ | ⟨rfl, hn42⟩
          · skip
            refine lv_if_eq (tgt := 51) hx hb dX4_near_45 (by decide) (fun c9 => absurd c9 (by decide)) (fun _ => ?_)
            refine lv_iload hx hb dX4_near_48 (lv_at hl 1 rfl) ?_
            exact W.iret (v := nI k36) hx hb hr (fun t ht hW => ⟨nI k36, rfl, by rw [neaA, if_pos (two_t hv24 ha1 hb1 hab), ← hC.eld hic (i := a1) (by omega), ← hC.eld hic (i := b1) (by omega), hhi, hiB, if_pos (hol_y (by omega) hy42)], ht⟩) (fun _ h9 => by cases h9) dX4_near_50
          · skip
            refine lv_if_eq (tgt := 51) hx hb dX4_near_45 (by decide) (fun _ => ?_) (fun c9 => absurd (by decide) c9)
            refine lv_iinc (v := (nI k36) + (-1)) (lv' := [(4, .int ((nI k36) + (-1))), (3, .int ((eldV (wn.2 1) (nI a1)) &&& (eldV (wn.2 1) (nI b1))))]) hx hb dX4_near_51 hl (k := 1) rfl (rfl) (by decide) rfl (fun ls hl => ?_)
            refine lv_goto (tgt := 34) hx hb dX4_near_54 (by decide) ?_
            exact ih34 k36 (by first | assumption | omega) (by rw [hhi, hiB, if_neg (hol_n (by omega) hn42)]) (by omega) ls (lv_sub hl [1, 0] rfl)
    exact LP34 (24 + 1) 24 (by first | assumption | omega) (rfl) (Nat.lt_succ_self _) ls (lv_sub hl [1, 0] rfl)
  · skip
    refine lv_if_ne (tgt := 12) hx hb dX4_near_6 (by decide) (fun c9 => absurd (by decide) c9) (fun _ => ?_)
    refine lv_ldc (v := (-1000000001 : Int32)) hx hb hown (hts (.constant RX4 110 (-1000000001)) (List.mem_of_getElem? (i := 1) rfl)) dX4_near_9 ?_
    exact W.iret (v := (-1000000001 : Int32)) hx hb hr (fun t ht hW => ⟨(-1000000001 : Int32), rfl, by rw [neaA, if_neg hno], ht⟩) (fun _ h9 => by cases h9) dX4_near_11
set_option maxHeartbeats 1000000 in
set_option maxRecDepth 100000 in
theorem mt_X4_openS (l : Launch) (G : gG) (h : Nat → Nat) (sz : Nat) (x : oS) (wn : oS) (wa : oS) (w0 : oS) (w1 : oS) (rd : oS) (wr : oS) (z : oS) (jj : Nat → Nat → Int64) (lt : Int64) (sg : pS) (zz : Nat → Nat → Int64) (a : Int32) (hIS : IS sg) (hRX : RepX x wn wa w0 w1 rd z jj sg zz) : Met l yX4_open wsX4_open ({ frames := 3, cells := 0, slots := 0, locals := 65 }) (preW G (xw G h x wn wa w0 w1 rd wr z jj lt) sz [.ref (h 0), .int a]) (va_Qi (fun (r : Int32) (v : oS × oS × oS × oS × oS × oS × oS × oS × (Nat → Nat → Int64) × Int64) => RpX v (opnF sg a) (zz) ∧ r = opnA sg a) (fun v t => PP G (xw G h v.1 v.2.1 v.2.2.1 v.2.2.2.1 v.2.2.2.2.1 v.2.2.2.2.2.1 v.2.2.2.2.2.2.1 v.2.2.2.2.2.2.2.1 v.2.2.2.2.2.2.2.2.1 v.2.2.2.2.2.2.2.2.2) t.heap) (va_A (xw G h x wn wa w0 w1 rd wr z jj lt) sz)) 0 0 (va_A (xw G h x wn wa w0 w1 rd wr z jj lt) sz) := by
  refine Met.ofW (cc := cX4_open) (maxL := 2) (ret := (some .int)) (by decide) rfl ?_
  intro p e s m args below meth c s₁ B hml hv
  obtain ⟨ha, hsz, hP, hK, hN, hD0⟩ := hv
  subst ha
  have hx := B.exec
  have hb := B.bytes
  have hr := B.returns
  have hts := atoms_spec (ws := wsX4_open) B.pre
  have hown : s.vm.findClass RX4 = some m.cls := findClass_of_methodNamed B.named
  have hlocks := B.notSynchronized
  subst hsz
  have hD := hD0.self (sz := s.heap.size)
  generalize hAe : va_A (xw G h x wn wa w0 w1 rd wr z jj lt) s.heap.size = A at hD ⊢
  have hA : ∀ q : Nat, s.heap.size ≤ q → A q := fun q h => by rw [← hAe]; exact Or.inr h
  clear hAe hD0
  have hS : va_S A s.heap s.heap [] := va_S.rf
  have hiX4 : ∀ w ∈ wsX40, w ∈ wsX4_open := fun w h9 => List.mem_cons_of_mem _ (List.mem_append_left _ (List.mem_append_right _ (h9)))
  have k10 := hts (.fieldLink RX4 10 "WovenHistory" "now" "LWovenHistory$Weave;") (List.mem_of_getElem? (i := 1) rfl)
  have k48 := hts (.fieldLink RX4 48 "WovenHistory" "opened" "Z") (List.mem_of_getElem? (i := 3) rfl)
  have hiX3 : ∀ w ∈ wsX30, w ∈ wsX4_open := fun w h9 => List.mem_cons_of_mem _ (List.mem_append_right _ (h9))
  have k82 : (Cond.fieldLinkNest "WovenHistory" 82 "WovenHistory$Weave" "versions" "I" "WovenHistory").before _ s = true := va_Nw.use (A := ([.ref (h 0), .int a] : List Value).toArray) rfl (hN.1 ("WovenHistory", 82, "WovenHistory$Weave", "versions", "I") (List.mem_of_getElem? (i := 12) rfl))
  have k16 := hts (.fieldLink RX4 16 "WovenHistory" "aheadOfOpen" "LWovenHistory$Weave;") (List.mem_of_getElem? (i := 6) rfl)
  have hl := lv_entry ([.ref (h 0), .int a]) (n := 2) (Nat.le_of_ble_eq_true rfl)
  rw [lg_entry_eq]
  generalize (lg_sl ([.ref (h 0), .int a]) ++ List.replicate (2 - (lg_sl ([.ref (h 0), .int a])).length) Slot.unset).toArray = ls at hl ⊢
  have hl : lv_has ls 2 [(0, .ref (h 0)), (1, .int a)] := hl
  have hC := hRX.1
  have hic := hIS.ic
  have hv24 := hIS.1
  have hl120 := hIS.2.1
  have ho1 := hIS.2.2.1
  refine lv_iload_n hx hb dX4_open_0 rfl (lv_at hl 1 rfl) ?_
  refine lv_iconst (v := (-1 : Int32)) hx hb dX4_open_1 (by decide) ?_
  refine lv_icmp_eq (tgt := 19) hx hb dX4_open_2 (by decide) (fun c2 => ?_) (fun c2 => ?_)
  · skip
    subst c2
    refine lv_aload_n hx hb dX4_open_19 rfl (lv_at hl 0 rfl) ?_
    refine va_get (D := gD G) (ci := 4) (v := .int (x.1 7)) (C := RX4) (T := TX4) (N := 9) hx hb hts hiX4 hown hK hP 0 (xp_0 _ _ _ _ _ _ _ _ _ _ _ _) rfl 7 (by decide) k48 (fun _ h9 => h9) rfl dX4_open_20 ?_
    refine topE hRX.2.1 ?_
    refine lv_if_eq (tgt := 29) hx hb dX4_open_23 (by decide) (fun c23 => ?_) (fun c23 => ?_)
    · skip
      have n23 : (sg.1 8) = 0 := (nI_eq (a := sg.1 8) (b := 0) (by omega) (by omega)).mp c23
      refine lv_aload_n hx hb dX4_open_29 rfl (lv_at hl 0 rfl) ?_
      refine va_get (D := gD G) (ci := 4) (v := .ref (h 10)) (C := RX4) (T := TX4) (N := 9) hx hb hts hiX4 hown hK hP 0 (xp_0 _ _ _ _ _ _ _ _ _ _ _ _) rfl 0 (by decide) k10 (fun _ h9 => h9) rfl dX4_open_30 ?_
      refine va_getN (D := gD G) (ci := 3) (v := .int (wn.1 0)) (C := RX3) (T := TX3) (N := 9) hx hb hts hiX3 hown hK hP 3 (xp_3 _ _ _ _ _ _ _ _ _ _ _ _) rfl 0 (by decide) k82 (fun _ h9 => h9) rfl dX4_open_33 ?_
      refine topE hC.1 ?_
      refine lv_bipush (v := nI 24) hx hb dX4_open_36 (by decide) ?_
      refine lv_icmp_lt (tgt := 44) hx hb dX4_open_38 (by decide) (fun c38 => ?_) (fun c38 => ?_)
      · skip
        have n38 : (sg.1 0) < 24 := (nI_ltI (a := sg.1 0) (b := 24) (by omega) (by omega)).mp c38
        refine lv_aload_n hx hb dX4_open_44 rfl (lv_at hl 0 rfl) ?_
        refine va_get (D := gD G) (ci := 4) (v := .ref (h 20)) (C := RX4) (T := TX4) (N := 9) hx hb hts hiX4 hown hK hP 0 (xp_0 _ _ _ _ _ _ _ _ _ _ _ _) rfl 1 (by decide) k16 (fun _ h9 => h9) rfl dX4_open_45 ?_
        refine lv_aload_n hx hb dX4_open_48 rfl (lv_at hl 0 rfl) ?_
        refine va_get (D := gD G) (ci := 4) (v := .ref (h 10)) (C := RX4) (T := TX4) (N := 9) hx hb hts hiX4 hown hK hP 0 (xp_0 _ _ _ _ _ _ _ _ _ _ _ _) rfl 0 (by decide) k10 (fun _ h9 => h9) rfl dX4_open_49 ?_
        refine cWv (As := [.ref (h 10)]) (rest := []) (S := oS × oS) (wa := xw G h x wn wa w0 w1 rd wr z jj lt) (wc := wb G (fun k => h (20 + k)) (fun k => h (10 + k)) wa wn) (w1 := fun v => wb G (fun k => h (20 + k)) (fun k => h (10 + k)) v.1 v.2) (wa' := fun v => xw G h x v.2 v.1 w0 w1 rd wr z jj lt) ⟨hx, hb, hml, hown, hts⟩ (mt_X3_becomeF l G (fun k => h (20 + k)) _ wa wn (fun k => h (10 + k))) (cwV 1 hts gX4_open_X3_become rfl rfl rfl ⟨rfl, hd_X3_become⟩ ⟨Nat.le_of_ble_eq_true rfl, Nat.le_of_ble_eq_true rfl⟩) hK hN hP hD hS hA [11, 12, 13, 14, 15, 16, 17, 18, 3, 4, 5, 6, 7, 8, 9, 10] (yc_ahead_now _ _ _ _ _ _ _ _ _ _ _ _) (by decide) (yf_ahead_now _ _ _ _ _ _ _ _ _ _ _ _) (fun _ => rfl) (fun v => yo_ahead_now _ _ _ _ _ _ _ _ _ _ _ _ v) (fun v => ym_ahead_now _ _ _ _ _ _ _ _ _ _ _ _ v) 0 3 rfl rfl rfl hl.1 rfl (Nat.le_of_ble_eq_true rfl) ⟨Nat.zero_le _, Nat.zero_le _⟩ dX4_open_52 (fun u52 H locs hw52 hP hD hS => ?_)
        obtain ⟨w52, rfl, hcp52⟩ := hw52
        have hP : PP G (xw G h x wn w52 w0 w1 rd wr z jj lt) H := hP
        have hD : va_D A (xw G h x wn w52 w0 w1 rd wr z jj lt) := hD
        refine lv_aload_n hx hb dX4_open_55 rfl (lv_at hl 0 rfl) ?_
        refine va_get (D := gD G) (ci := 4) (v := .ref (h 10)) (C := RX4) (T := TX4) (N := 9) hx hb hts hiX4 hown hK hP 0 (xp_0 _ _ _ _ _ _ _ _ _ _ _ _) rfl 0 (by decide) k10 (fun _ h9 => h9) rfl dX4_open_56 ?_
        refine lv_iload_n hx hb dX4_open_59 rfl (lv_at hl 1 rfl) ?_
        refine lv_iconst (v := nI 0) hx hb dX4_open_60 (by decide) ?_
        refine lv_iconst (v := nI 0) hx hb dX4_open_61 (by decide) ?_
        refine cWv (As := [.int (-1 : Int32), .int (nI 0), .int (nI 0)]) (rest := []) (S := oS) (wa := xw G h x wn w52 w0 w1 rd wr z jj lt) (wc := wv G (fun k => h (10 + k)) wn) (w1 := fun v => wv G (fun k => h (10 + k)) v) (wa' := fun v => xw G h x v w52 w0 w1 rd wr z jj lt) ⟨hx, hb, hml, hown, hts⟩ (mt_X3_beginVersionF l G (fun k => h (10 + k)) _ wn (sg.1 0) (-1 : Int32) (nI 0) (nI 0) (hC.1) (n38) ((Or.inl rfl)) (hC.pw hic (by omega)) (hC.ch hic (by omega))) (cwV 3 hts gX4_open_X3_beginVersion rfl rfl rfl ⟨rfl, hd_X3_beginVersion⟩ ⟨Nat.le_of_ble_eq_true rfl, Nat.le_of_ble_eq_true rfl⟩) hK hN hP hD hS hA [3, 4, 5, 6, 7, 8, 9, 10] (xc_now _ _ _ _ _ _ _ _ _ _ _ _) (by decide) (xf_now _ _ _ _ _ _ _ _ _ _ _ _) (fun _ => rfl) (fun v => xo_now _ _ _ _ _ _ _ _ _ _ _ _ v) (fun v => xm_now _ _ _ _ _ _ _ _ _ _ _ _ v) 0 3 rfl rfl rfl hl.1 rfl (Nat.le_of_ble_eq_true rfl) ⟨Nat.zero_le _, Nat.zero_le _⟩ dX4_open_62 (fun u62 H locs hw62 hP hD hS => ?_)
        obtain rfl := hw62
        have hP : PP G (xw G h x (bgW wn (sg.1 0) (-1 : Int32) (nI 0) (nI 0)) w52 w0 w1 rd wr z jj lt) H := hP
        have hD : va_D A (xw G h x (bgW wn (sg.1 0) (-1 : Int32) (nI 0) (nI 0)) w52 w0 w1 rd wr z jj lt) := hD
        refine lv_aload_n hx hb dX4_open_65 rfl (lv_at hl 0 rfl) ?_
        refine lv_iconst (v := nI 1) hx hb dX4_open_66 (by decide) ?_
        refine va_put (D := gD G) (ci := 4) (v := .int (nI 1)) (ty := .boolean) (C := RX4) (T := TX4) (N := 9) hx hb hts hiX4 tyX4 tyX4_ok nmX4 hown hK hP hD hS 0 (xp_0 _ _ _ _ _ _ _ _ _ _ _ _) rfl 7 (by decide) k48 (fun _ h9 => h9) rfl (tyX4_ok 7 (by decide)) (rfl) (rfl) (Nat.le_of_ble_eq_true rfl) dX4_open_67 (fun H locs hP hD hS => ?_)
        have hP : PP G (xw G h (oI x 7 (nI 1)) (bgW wn (sg.1 0) (-1 : Int32) (nI 0) (nI 0)) w52 w0 w1 rd wr z jj lt) H := hP
        have hD : va_D A (xw G h (oI x 7 (nI 1)) (bgW wn (sg.1 0) (-1 : Int32) (nI 0) (nI 0)) w52 w0 w1 rd wr z jj lt) := hD
        refine lv_aload_n hx hb dX4_open_70 rfl (lv_at hl 0 rfl) ?_
        refine va_get (D := gD G) (ci := 4) (v := .ref (h 10)) (C := RX4) (T := TX4) (N := 9) hx hb hts hiX4 hown hK hP 0 (xp_0 _ _ _ _ _ _ _ _ _ _ _ _) rfl 0 (by decide) k10 (fun _ h9 => h9) rfl dX4_open_71 ?_
        refine va_getN (D := gD G) (ci := 3) (v := .int ((bgW wn (sg.1 0) (-1 : Int32) (nI 0) (nI 0)).1 0)) (C := RX3) (T := TX3) (N := 9) hx hb hts hiX3 hown hK hP 3 (xp_3 _ _ _ _ _ _ _ _ _ _ _ _) rfl 0 (by decide) k82 (fun _ h9 => h9) rfl dX4_open_74 ?_
        refine topE hC.1 ?_
        exact W.iret (v := nI (sg.1 0)) hx hb hr (fun t ht hW => ⟨⟨nI (sg.1 0), (oI x 7 (nI 1), bgW wn (sg.1 0) (-1 : Int32) (nI 0) (nI 0), w52, w0, w1, rd, wr, z, jj, lt), rfl, ⟨by rw [opnF, if_neg (fun q => q.1 rfl), if_neg (not_not_intro n23), if_neg (show ¬ sg.1 0 = 24 by omega)]; exact RepX_opn hRX hIS n23 n38 (Or.inl rfl) hcp52, by rw [opnA, if_neg (fun q => q.1 rfl), if_neg (not_not_intro n23), if_neg (show ¬ sg.1 0 = 24 by omega)]⟩, show PP G (xw G h (oI x 7 (nI 1)) (bgW wn (sg.1 0) (-1 : Int32) (nI 0) (nI 0)) w52 w0 w1 rd wr z jj lt) t.heap by rw [ht]; exact hP⟩, hS.F ht⟩) hS.2.2 dX4_open_77
      · skip
        have n38 : ¬ ((sg.1 0) < 24) := fun q9 => c38 ((nI_ltI (a := sg.1 0) (b := 24) (by omega) (by omega)).mpr q9)
        refine lv_ldc (v := (-1000000004 : Int32)) hx hb hown (hts (.constant RX4 64 (-1000000004)) (List.mem_of_getElem? (i := 5) rfl)) dX4_open_41 ?_
        exact W.iret (v := (-1000000004 : Int32)) hx hb hr (fun t ht hW => ⟨⟨(-1000000004 : Int32), (x, wn, wa, w0, w1, rd, wr, z, jj, lt), rfl, ⟨by rw [opnF, if_neg (fun q => q.1 rfl), if_neg (not_not_intro n23), if_pos (show sg.1 0 = 24 by omega)]; exact hRX, by rw [opnA, if_neg (fun q => q.1 rfl), if_neg (not_not_intro n23), if_pos (show sg.1 0 = 24 by omega)]⟩, show PP G (xw G h x wn wa w0 w1 rd wr z jj lt) t.heap by rw [ht]; exact hP⟩, hS.F ht⟩) hS.2.2 dX4_open_43
    · skip
      have n23 : ¬ ((sg.1 8) = 0) := fun q9 => c23 ((nI_eq (a := sg.1 8) (b := 0) (by omega) (by omega)).mpr q9)
      refine lv_ldc (v := (-1000000003 : Int32)) hx hb hown (hts (.constant RX4 148 (-1000000003)) (List.mem_of_getElem? (i := 4) rfl)) dX4_open_26 ?_
      exact W.iret (v := (-1000000003 : Int32)) hx hb hr (fun t ht hW => ⟨⟨(-1000000003 : Int32), (x, wn, wa, w0, w1, rd, wr, z, jj, lt), rfl, ⟨by rw [opnF, if_neg (fun q => q.1 rfl), if_pos n23]; exact hRX, by rw [opnA, if_neg (fun q => q.1 rfl), if_pos n23]⟩, show PP G (xw G h x wn wa w0 w1 rd wr z jj lt) t.heap by rw [ht]; exact hP⟩, hS.F ht⟩) hS.2.2 dX4_open_28
  · skip
    refine lv_aload_n hx hb dX4_open_5 rfl (lv_at hl 0 rfl) ?_
    refine va_get (D := gD G) (ci := 4) (v := .ref (h 10)) (C := RX4) (T := TX4) (N := 9) hx hb hts hiX4 hown hK hP 0 (xp_0 _ _ _ _ _ _ _ _ _ _ _ _) rfl 0 (by decide) k10 (fun _ h9 => h9) rfl dX4_open_6 ?_
    refine lv_iload_n hx hb dX4_open_9 rfl (lv_at hl 1 rfl) ?_
    refine cRi (w := wv G (fun k => h (10 + k)) wn) (As := [.int a]) (rest := []) ⟨hx, hb, hml, hown, hts⟩ (mt_X3_hasVersion l G (fun k => h (10 + k)) wn (sg.1 0) a (hC.1) (by first | assumption | omega)) (cwV 1 hts gX4_open_X3_hasVersion rfl rfl rfl ⟨rfl, hd_X3_hasVersion⟩ ⟨Nat.le_of_ble_eq_true rfl, Nat.le_of_ble_eq_true rfl⟩) hK hN (hP.sub [3, 4, 5, 6, 7, 8, 9, 10] (xf_now _ _ _ _ _ _ _ _ _ _ _ _)) 0 3 rfl rfl rfl hl.1 rfl (Nat.le_of_ble_eq_true rfl) ⟨Nat.zero_le _, Nat.zero_le _⟩ dX4_open_10 (fun r10 hw10 => ?_)
    rcases hw10 with ⟨rfl, a1, ha1, rfl⟩ | ⟨rfl, hna1⟩
    · skip
      refine lv_if_ne (tgt := 19) hx hb dX4_open_13 (by decide) (fun _ => ?_) (fun c9 => absurd c9 (by decide))
      refine lv_aload_n hx hb dX4_open_19 rfl (lv_at hl 0 rfl) ?_
      refine va_get (D := gD G) (ci := 4) (v := .int (x.1 7)) (C := RX4) (T := TX4) (N := 9) hx hb hts hiX4 hown hK hP 0 (xp_0 _ _ _ _ _ _ _ _ _ _ _ _) rfl 7 (by decide) k48 (fun _ h9 => h9) rfl dX4_open_20 ?_
      refine topE hRX.2.1 ?_
      refine lv_if_eq (tgt := 29) hx hb dX4_open_23 (by decide) (fun c23 => ?_) (fun c23 => ?_)
      · skip
        have n23 : (sg.1 8) = 0 := (nI_eq (a := sg.1 8) (b := 0) (by omega) (by omega)).mp c23
        refine lv_aload_n hx hb dX4_open_29 rfl (lv_at hl 0 rfl) ?_
        refine va_get (D := gD G) (ci := 4) (v := .ref (h 10)) (C := RX4) (T := TX4) (N := 9) hx hb hts hiX4 hown hK hP 0 (xp_0 _ _ _ _ _ _ _ _ _ _ _ _) rfl 0 (by decide) k10 (fun _ h9 => h9) rfl dX4_open_30 ?_
        refine va_getN (D := gD G) (ci := 3) (v := .int (wn.1 0)) (C := RX3) (T := TX3) (N := 9) hx hb hts hiX3 hown hK hP 3 (xp_3 _ _ _ _ _ _ _ _ _ _ _ _) rfl 0 (by decide) k82 (fun _ h9 => h9) rfl dX4_open_33 ?_
        refine topE hC.1 ?_
        refine lv_bipush (v := nI 24) hx hb dX4_open_36 (by decide) ?_
        refine lv_icmp_lt (tgt := 44) hx hb dX4_open_38 (by decide) (fun c38 => ?_) (fun c38 => ?_)
        · skip
          have n38 : (sg.1 0) < 24 := (nI_ltI (a := sg.1 0) (b := 24) (by omega) (by omega)).mp c38
          refine lv_aload_n hx hb dX4_open_44 rfl (lv_at hl 0 rfl) ?_
          refine va_get (D := gD G) (ci := 4) (v := .ref (h 20)) (C := RX4) (T := TX4) (N := 9) hx hb hts hiX4 hown hK hP 0 (xp_0 _ _ _ _ _ _ _ _ _ _ _ _) rfl 1 (by decide) k16 (fun _ h9 => h9) rfl dX4_open_45 ?_
          refine lv_aload_n hx hb dX4_open_48 rfl (lv_at hl 0 rfl) ?_
          refine va_get (D := gD G) (ci := 4) (v := .ref (h 10)) (C := RX4) (T := TX4) (N := 9) hx hb hts hiX4 hown hK hP 0 (xp_0 _ _ _ _ _ _ _ _ _ _ _ _) rfl 0 (by decide) k10 (fun _ h9 => h9) rfl dX4_open_49 ?_
          refine cWv (As := [.ref (h 10)]) (rest := []) (S := oS × oS) (wa := xw G h x wn wa w0 w1 rd wr z jj lt) (wc := wb G (fun k => h (20 + k)) (fun k => h (10 + k)) wa wn) (w1 := fun v => wb G (fun k => h (20 + k)) (fun k => h (10 + k)) v.1 v.2) (wa' := fun v => xw G h x v.2 v.1 w0 w1 rd wr z jj lt) ⟨hx, hb, hml, hown, hts⟩ (mt_X3_becomeF l G (fun k => h (20 + k)) _ wa wn (fun k => h (10 + k))) (cwV 1 hts gX4_open_X3_become rfl rfl rfl ⟨rfl, hd_X3_become⟩ ⟨Nat.le_of_ble_eq_true rfl, Nat.le_of_ble_eq_true rfl⟩) hK hN hP hD hS hA [11, 12, 13, 14, 15, 16, 17, 18, 3, 4, 5, 6, 7, 8, 9, 10] (yc_ahead_now _ _ _ _ _ _ _ _ _ _ _ _) (by decide) (yf_ahead_now _ _ _ _ _ _ _ _ _ _ _ _) (fun _ => rfl) (fun v => yo_ahead_now _ _ _ _ _ _ _ _ _ _ _ _ v) (fun v => ym_ahead_now _ _ _ _ _ _ _ _ _ _ _ _ v) 0 3 rfl rfl rfl hl.1 rfl (Nat.le_of_ble_eq_true rfl) ⟨Nat.zero_le _, Nat.zero_le _⟩ dX4_open_52 (fun u52 H locs hw52 hP hD hS => ?_)
          obtain ⟨w52, rfl, hcp52⟩ := hw52
          have hP : PP G (xw G h x wn w52 w0 w1 rd wr z jj lt) H := hP
          have hD : va_D A (xw G h x wn w52 w0 w1 rd wr z jj lt) := hD
          refine lv_aload_n hx hb dX4_open_55 rfl (lv_at hl 0 rfl) ?_
          refine va_get (D := gD G) (ci := 4) (v := .ref (h 10)) (C := RX4) (T := TX4) (N := 9) hx hb hts hiX4 hown hK hP 0 (xp_0 _ _ _ _ _ _ _ _ _ _ _ _) rfl 0 (by decide) k10 (fun _ h9 => h9) rfl dX4_open_56 ?_
          refine lv_iload_n hx hb dX4_open_59 rfl (lv_at hl 1 rfl) ?_
          refine lv_iconst (v := nI 0) hx hb dX4_open_60 (by decide) ?_
          refine lv_iconst (v := nI 0) hx hb dX4_open_61 (by decide) ?_
          refine cWv (As := [.int (nI a1), .int (nI 0), .int (nI 0)]) (rest := []) (S := oS) (wa := xw G h x wn w52 w0 w1 rd wr z jj lt) (wc := wv G (fun k => h (10 + k)) wn) (w1 := fun v => wv G (fun k => h (10 + k)) v) (wa' := fun v => xw G h x v w52 w0 w1 rd wr z jj lt) ⟨hx, hb, hml, hown, hts⟩ (mt_X3_beginVersionF l G (fun k => h (10 + k)) _ wn (sg.1 0) (nI a1) (nI 0) (nI 0) (hC.1) (n38) ((Or.inr ⟨a1, ha1, rfl⟩)) (hC.pw hic (by omega)) (hC.ch hic (by omega))) (cwV 3 hts gX4_open_X3_beginVersion rfl rfl rfl ⟨rfl, hd_X3_beginVersion⟩ ⟨Nat.le_of_ble_eq_true rfl, Nat.le_of_ble_eq_true rfl⟩) hK hN hP hD hS hA [3, 4, 5, 6, 7, 8, 9, 10] (xc_now _ _ _ _ _ _ _ _ _ _ _ _) (by decide) (xf_now _ _ _ _ _ _ _ _ _ _ _ _) (fun _ => rfl) (fun v => xo_now _ _ _ _ _ _ _ _ _ _ _ _ v) (fun v => xm_now _ _ _ _ _ _ _ _ _ _ _ _ v) 0 3 rfl rfl rfl hl.1 rfl (Nat.le_of_ble_eq_true rfl) ⟨Nat.zero_le _, Nat.zero_le _⟩ dX4_open_62 (fun u62 H locs hw62 hP hD hS => ?_)
          obtain rfl := hw62
          have hP : PP G (xw G h x (bgW wn (sg.1 0) (nI a1) (nI 0) (nI 0)) w52 w0 w1 rd wr z jj lt) H := hP
          have hD : va_D A (xw G h x (bgW wn (sg.1 0) (nI a1) (nI 0) (nI 0)) w52 w0 w1 rd wr z jj lt) := hD
          refine lv_aload_n hx hb dX4_open_65 rfl (lv_at hl 0 rfl) ?_
          refine lv_iconst (v := nI 1) hx hb dX4_open_66 (by decide) ?_
          refine va_put (D := gD G) (ci := 4) (v := .int (nI 1)) (ty := .boolean) (C := RX4) (T := TX4) (N := 9) hx hb hts hiX4 tyX4 tyX4_ok nmX4 hown hK hP hD hS 0 (xp_0 _ _ _ _ _ _ _ _ _ _ _ _) rfl 7 (by decide) k48 (fun _ h9 => h9) rfl (tyX4_ok 7 (by decide)) (rfl) (rfl) (Nat.le_of_ble_eq_true rfl) dX4_open_67 (fun H locs hP hD hS => ?_)
          have hP : PP G (xw G h (oI x 7 (nI 1)) (bgW wn (sg.1 0) (nI a1) (nI 0) (nI 0)) w52 w0 w1 rd wr z jj lt) H := hP
          have hD : va_D A (xw G h (oI x 7 (nI 1)) (bgW wn (sg.1 0) (nI a1) (nI 0) (nI 0)) w52 w0 w1 rd wr z jj lt) := hD
          refine lv_aload_n hx hb dX4_open_70 rfl (lv_at hl 0 rfl) ?_
          refine va_get (D := gD G) (ci := 4) (v := .ref (h 10)) (C := RX4) (T := TX4) (N := 9) hx hb hts hiX4 hown hK hP 0 (xp_0 _ _ _ _ _ _ _ _ _ _ _ _) rfl 0 (by decide) k10 (fun _ h9 => h9) rfl dX4_open_71 ?_
          refine va_getN (D := gD G) (ci := 3) (v := .int ((bgW wn (sg.1 0) (nI a1) (nI 0) (nI 0)).1 0)) (C := RX3) (T := TX3) (N := 9) hx hb hts hiX3 hown hK hP 3 (xp_3 _ _ _ _ _ _ _ _ _ _ _ _) rfl 0 (by decide) k82 (fun _ h9 => h9) rfl dX4_open_74 ?_
          refine topE hC.1 ?_
          exact W.iret (v := nI (sg.1 0)) hx hb hr (fun t ht hW => ⟨⟨nI (sg.1 0), (oI x 7 (nI 1), bgW wn (sg.1 0) (nI a1) (nI 0) (nI 0), w52, w0, w1, rd, wr, z, jj, lt), rfl, ⟨by rw [opnF, if_neg (fun q => q.2 (inR_t ha1 (by omega))), if_neg (not_not_intro n23), if_neg (show ¬ sg.1 0 = 24 by omega)]; exact RepX_opn hRX hIS n23 n38 (Or.inr ⟨a1, ha1, rfl⟩) hcp52, by rw [opnA, if_neg (fun q => q.2 (inR_t ha1 (by omega))), if_neg (not_not_intro n23), if_neg (show ¬ sg.1 0 = 24 by omega)]⟩, show PP G (xw G h (oI x 7 (nI 1)) (bgW wn (sg.1 0) (nI a1) (nI 0) (nI 0)) w52 w0 w1 rd wr z jj lt) t.heap by rw [ht]; exact hP⟩, hS.F ht⟩) hS.2.2 dX4_open_77
        · skip
          have n38 : ¬ ((sg.1 0) < 24) := fun q9 => c38 ((nI_ltI (a := sg.1 0) (b := 24) (by omega) (by omega)).mpr q9)
          refine lv_ldc (v := (-1000000004 : Int32)) hx hb hown (hts (.constant RX4 64 (-1000000004)) (List.mem_of_getElem? (i := 5) rfl)) dX4_open_41 ?_
          exact W.iret (v := (-1000000004 : Int32)) hx hb hr (fun t ht hW => ⟨⟨(-1000000004 : Int32), (x, wn, wa, w0, w1, rd, wr, z, jj, lt), rfl, ⟨by rw [opnF, if_neg (fun q => q.2 (inR_t ha1 (by omega))), if_neg (not_not_intro n23), if_pos (show sg.1 0 = 24 by omega)]; exact hRX, by rw [opnA, if_neg (fun q => q.2 (inR_t ha1 (by omega))), if_neg (not_not_intro n23), if_pos (show sg.1 0 = 24 by omega)]⟩, show PP G (xw G h x wn wa w0 w1 rd wr z jj lt) t.heap by rw [ht]; exact hP⟩, hS.F ht⟩) hS.2.2 dX4_open_43
      · skip
        have n23 : ¬ ((sg.1 8) = 0) := fun q9 => c23 ((nI_eq (a := sg.1 8) (b := 0) (by omega) (by omega)).mpr q9)
        refine lv_ldc (v := (-1000000003 : Int32)) hx hb hown (hts (.constant RX4 148 (-1000000003)) (List.mem_of_getElem? (i := 4) rfl)) dX4_open_26 ?_
        exact W.iret (v := (-1000000003 : Int32)) hx hb hr (fun t ht hW => ⟨⟨(-1000000003 : Int32), (x, wn, wa, w0, w1, rd, wr, z, jj, lt), rfl, ⟨by rw [opnF, if_neg (fun q => q.2 (inR_t ha1 (by omega))), if_pos n23]; exact hRX, by rw [opnA, if_neg (fun q => q.2 (inR_t ha1 (by omega))), if_pos n23]⟩, show PP G (xw G h x wn wa w0 w1 rd wr z jj lt) t.heap by rw [ht]; exact hP⟩, hS.F ht⟩) hS.2.2 dX4_open_28
    · skip
      refine lv_if_ne (tgt := 19) hx hb dX4_open_13 (by decide) (fun c9 => absurd (by decide) c9) (fun _ => ?_)
      refine lv_ldc (v := (-1000000001 : Int32)) hx hb hown (hts (.constant RX4 110 (-1000000001)) (List.mem_of_getElem? (i := 2) rfl)) dX4_open_16 ?_
      exact W.iret (v := (-1000000001 : Int32)) hx hb hr (fun t ht hW => ⟨⟨(-1000000001 : Int32), (x, wn, wa, w0, w1, rd, wr, z, jj, lt), rfl, ⟨by rw [opnF, if_pos ⟨c2, inR_f (by omega) hna1⟩]; exact hRX, by rw [opnA, if_pos ⟨c2, inR_f (by omega) hna1⟩]⟩, show PP G (xw G h x wn wa w0 w1 rd wr z jj lt) t.heap by rw [ht]; exact hP⟩, hS.F ht⟩) hS.2.2 dX4_open_18
set_option maxHeartbeats 1000000 in
set_option maxRecDepth 100000 in
theorem mt_X4_includeS (l : Launch) (G : gG) (h : Nat → Nat) (sz : Nat) (x : oS) (wn : oS) (wa : oS) (w0 : oS) (w1 : oS) (rd : oS) (wr : oS) (z : oS) (jj : Nat → Nat → Int64) (lt : Int64) (sg : pS) (zz : Nat → Nat → Int64) (a : Int32) (hIS : IS sg) (hRX : RepX x wn wa w0 w1 rd z jj sg zz) : Met l yX4_include wsX4_include ({ frames := 4, cells := 0, slots := 0, locals := 87 }) (preW G (xw G h x wn wa w0 w1 rd wr z jj lt) sz [.ref (h 0), .int a]) (va_Qi (fun (r : Int32) (v : oS × oS × oS × oS × oS × oS × oS × oS × (Nat → Nat → Int64) × Int64) => RpX v (incF sg a) (zz) ∧ r = incA sg a) (fun v t => PP G (xw G h v.1 v.2.1 v.2.2.1 v.2.2.2.1 v.2.2.2.2.1 v.2.2.2.2.2.1 v.2.2.2.2.2.2.1 v.2.2.2.2.2.2.2.1 v.2.2.2.2.2.2.2.2.1 v.2.2.2.2.2.2.2.2.2) t.heap) (va_A (xw G h x wn wa w0 w1 rd wr z jj lt) sz)) 0 0 (va_A (xw G h x wn wa w0 w1 rd wr z jj lt) sz) := by
  refine Met.ofW (cc := cX4_include) (maxL := 2) (ret := (some .int)) (by decide) rfl ?_
  intro p e s m args below meth c s₁ B hml hv
  obtain ⟨ha, hsz, hP, hK, hN, hD0⟩ := hv
  subst ha
  have hx := B.exec
  have hb := B.bytes
  have hr := B.returns
  have hts := atoms_spec (ws := wsX4_include) B.pre
  have hown : s.vm.findClass RX4 = some m.cls := findClass_of_methodNamed B.named
  have hlocks := B.notSynchronized
  subst hsz
  have hD := hD0.self (sz := s.heap.size)
  generalize hAe : va_A (xw G h x wn wa w0 w1 rd wr z jj lt) s.heap.size = A at hD ⊢
  have hA : ∀ q : Nat, s.heap.size ≤ q → A q := fun q h => by rw [← hAe]; exact Or.inr h
  clear hAe hD0
  have hS : va_S A s.heap s.heap [] := va_S.rf
  have hiX4 : ∀ w ∈ wsX40, w ∈ wsX4_include := fun w h9 => List.mem_cons_of_mem _ (List.mem_append_left _ (List.mem_append_right _ (h9)))
  have k10 := hts (.fieldLink RX4 10 "WovenHistory" "now" "LWovenHistory$Weave;") (List.mem_of_getElem? (i := 1) rfl)
  have k48 := hts (.fieldLink RX4 48 "WovenHistory" "opened" "Z") (List.mem_of_getElem? (i := 3) rfl)
  have hl := lv_entry ([.ref (h 0), .int a]) (n := 2) (Nat.le_of_ble_eq_true rfl)
  rw [lg_entry_eq]
  generalize (lg_sl ([.ref (h 0), .int a]) ++ List.replicate (2 - (lg_sl ([.ref (h 0), .int a])).length) Slot.unset).toArray = ls at hl ⊢
  have hl : lv_has ls 2 [(0, .ref (h 0)), (1, .int a)] := hl
  have hC := hRX.1
  have hic := hIS.ic
  have hv24 := hIS.1
  have hl120 := hIS.2.1
  have ho1 := hIS.2.2.1
  refine lv_aload_n hx hb dX4_include_0 rfl (lv_at hl 0 rfl) ?_
  refine va_get (D := gD G) (ci := 4) (v := .ref (h 10)) (C := RX4) (T := TX4) (N := 9) hx hb hts hiX4 hown hK hP 0 (xp_0 _ _ _ _ _ _ _ _ _ _ _ _) rfl 0 (by decide) k10 (fun _ h9 => h9) rfl dX4_include_1 ?_
  refine lv_iload_n hx hb dX4_include_4 rfl (lv_at hl 1 rfl) ?_
  refine cRi (w := wv G (fun k => h (10 + k)) wn) (As := [.int a]) (rest := []) ⟨hx, hb, hml, hown, hts⟩ (mt_X3_hasVersion l G (fun k => h (10 + k)) wn (sg.1 0) a (hC.1) (by first | assumption | omega)) (cwV 1 hts gX4_include_X3_hasVersion rfl rfl rfl ⟨rfl, hd_X3_hasVersion⟩ ⟨Nat.le_of_ble_eq_true rfl, Nat.le_of_ble_eq_true rfl⟩) hK hN (hP.sub [3, 4, 5, 6, 7, 8, 9, 10] (xf_now _ _ _ _ _ _ _ _ _ _ _ _)) 0 3 rfl rfl rfl hl.1 rfl (Nat.le_of_ble_eq_true rfl) ⟨Nat.zero_le _, Nat.zero_le _⟩ dX4_include_5 (fun r5 hw5 => ?_)
  rcases hw5 with ⟨rfl, a1, ha1, rfl⟩ | ⟨rfl, hna1⟩
  · skip
    refine lv_if_ne (tgt := 14) hx hb dX4_include_8 (by decide) (fun _ => ?_) (fun c9 => absurd c9 (by decide))
    refine lv_aload_n hx hb dX4_include_14 rfl (lv_at hl 0 rfl) ?_
    refine va_get (D := gD G) (ci := 4) (v := .int (x.1 7)) (C := RX4) (T := TX4) (N := 9) hx hb hts hiX4 hown hK hP 0 (xp_0 _ _ _ _ _ _ _ _ _ _ _ _) rfl 7 (by decide) k48 (fun _ h9 => h9) rfl dX4_include_15 ?_
    refine topE hRX.2.1 ?_
    refine lv_if_eq (tgt := 32) hx hb dX4_include_18 (by decide) (fun c18 => ?_) (fun c18 => ?_)
    · skip
      have n18 : (sg.1 8) = 0 := (nI_eq (a := sg.1 8) (b := 0) (by omega) (by omega)).mp c18
      refine lv_ldc (v := (-1000000003 : Int32)) hx hb hown (hts (.constant RX4 148 (-1000000003)) (List.mem_of_getElem? (i := 4) rfl)) dX4_include_32 ?_
      exact W.iret (v := (-1000000003 : Int32)) hx hb hr (fun t ht hW => ⟨⟨(-1000000003 : Int32), (x, wn, wa, w0, w1, rd, wr, z, jj, lt), rfl, (by first | exact ⟨by rw [incF, if_neg (not_not_intro (inR_t ha1 (by omega))), vN_n (j := a1) (by omega), if_pos (show sg.1 8 = 0 ∨ hasb (cvS sg (sg.1 0)) a1 = true from Or.inl n18)]; exact hRX, by rw [incA, if_neg (not_not_intro (inR_t ha1 (by omega))), vN_n (j := a1) (by omega), if_pos (show sg.1 8 = 0 ∨ hasb (cvS sg (sg.1 0)) a1 = true from Or.inl n18)]⟩ | exact ⟨by rw [incF, if_neg (not_not_intro (inR_t ha1 (by omega))), vN_n (j := a1) (by omega), if_pos (show sg.1 8 = 0 ∨ hasb (cvS sg (sg.1 0)) a1 = true from Or.inr (hol_y (by omega) hy26))]; exact hRX, by rw [incA, if_neg (not_not_intro (inR_t ha1 (by omega))), vN_n (j := a1) (by omega), if_pos (show sg.1 8 = 0 ∨ hasb (cvS sg (sg.1 0)) a1 = true from Or.inr (hol_y (by omega) hy26))]⟩), show PP G (xw G h x wn wa w0 w1 rd wr z jj lt) t.heap by rw [ht]; exact hP⟩, hS.F ht⟩) hS.2.2 dX4_include_34
    · skip
      have n18 : ¬ ((sg.1 8) = 0) := fun q9 => c18 ((nI_eq (a := sg.1 8) (b := 0) (by omega) (by omega)).mpr q9)
      have h81 : sg.1 8 = 1 := by omega
      have hC1 : CW wn sg (sg.1 0 + 1) := by rw [h81] at hC; exact hC
      have hv23 : sg.1 0 < 24 := hIS.2.2.2.1 h81
      have hic1 : IC sg (sg.1 0 + 1) := by rw [h81] at hic; exact hic
      refine lv_aload_n hx hb dX4_include_21 rfl (lv_at hl 0 rfl) ?_
      refine cRi (w := xw G h x wn wa w0 w1 rd wr z jj lt) (As := []) (rest := []) ⟨hx, hb, hml, hown, hts⟩ (mt_X4_openChangesF l G h x wn wa w0 w1 rd wr z jj lt sg (hC1) (hv23) (hl120)) (cwV 0 hts gX4_include_X4_openChanges rfl rfl rfl ⟨rfl, hd_X4_openChanges⟩ ⟨Nat.le_of_ble_eq_true rfl, Nat.le_of_ble_eq_true rfl⟩) hK hN hP 0 4 rfl rfl rfl hl.1 rfl (Nat.le_of_ble_eq_true rfl) ⟨Nat.zero_le _, Nat.zero_le _⟩ dX4_include_22 (fun r22 hw22 => ?_)
      obtain rfl := hw22
      refine lv_iload_n hx hb dX4_include_25 rfl (lv_at hl 1 rfl) ?_
      refine cSi (As := [.int (cvS sg (sg.1 0)), .int (nI a1)]) (rest := []) ⟨hx, hb, hml, hown, hts⟩ (mt_X3_holdsF l (cvS sg (sg.1 0)) (nI a1)) (va_cwS 2 hts gX4_include_X3_holds rfl rfl rfl hd_X3_holds ⟨Nat.le_of_ble_eq_true rfl, Nat.le_of_ble_eq_true rfl⟩) rfl hl.1 rfl (Nat.le_of_ble_eq_true rfl) ⟨Nat.zero_le _, Nat.zero_le _⟩ dX4_include_26 (fun r26 hw26 => ?_)
      rcases hw26 with ⟨rfl, hy26⟩ | ⟨rfl, hn26⟩
      · skip
        refine lv_if_eq (tgt := 35) hx hb dX4_include_29 (by decide) (fun c9 => absurd c9 (by decide)) (fun _ => ?_)
        refine lv_ldc (v := (-1000000003 : Int32)) hx hb hown (hts (.constant RX4 148 (-1000000003)) (List.mem_of_getElem? (i := 4) rfl)) dX4_include_32 ?_
        exact W.iret (v := (-1000000003 : Int32)) hx hb hr (fun t ht hW => ⟨⟨(-1000000003 : Int32), (x, wn, wa, w0, w1, rd, wr, z, jj, lt), rfl, (by first | exact ⟨by rw [incF, if_neg (not_not_intro (inR_t ha1 (by omega))), vN_n (j := a1) (by omega), if_pos (show sg.1 8 = 0 ∨ hasb (cvS sg (sg.1 0)) a1 = true from Or.inl n18)]; exact hRX, by rw [incA, if_neg (not_not_intro (inR_t ha1 (by omega))), vN_n (j := a1) (by omega), if_pos (show sg.1 8 = 0 ∨ hasb (cvS sg (sg.1 0)) a1 = true from Or.inl n18)]⟩ | exact ⟨by rw [incF, if_neg (not_not_intro (inR_t ha1 (by omega))), vN_n (j := a1) (by omega), if_pos (show sg.1 8 = 0 ∨ hasb (cvS sg (sg.1 0)) a1 = true from Or.inr (hol_y (by omega) hy26))]; exact hRX, by rw [incA, if_neg (not_not_intro (inR_t ha1 (by omega))), vN_n (j := a1) (by omega), if_pos (show sg.1 8 = 0 ∨ hasb (cvS sg (sg.1 0)) a1 = true from Or.inr (hol_y (by omega) hy26))]⟩), show PP G (xw G h x wn wa w0 w1 rd wr z jj lt) t.heap by rw [ht]; exact hP⟩, hS.F ht⟩) hS.2.2 dX4_include_34
      · skip
        refine lv_if_eq (tgt := 35) hx hb dX4_include_29 (by decide) (fun _ => ?_) (fun c9 => absurd (by decide) c9)
        refine lv_aload_n hx hb dX4_include_35 rfl (lv_at hl 0 rfl) ?_
        refine va_get (D := gD G) (ci := 4) (v := .ref (h 10)) (C := RX4) (T := TX4) (N := 9) hx hb hts hiX4 hown hK hP 0 (xp_0 _ _ _ _ _ _ _ _ _ _ _ _) rfl 0 (by decide) k10 (fun _ h9 => h9) rfl dX4_include_36 ?_
        refine lv_iload_n hx hb dX4_include_39 rfl (lv_at hl 1 rfl) ?_
        refine cWv (As := [.int (nI a1)]) (rest := []) (S := oS) (wa := xw G h x wn wa w0 w1 rd wr z jj lt) (wc := wv G (fun k => h (10 + k)) wn) (w1 := fun v => wv G (fun k => h (10 + k)) v) (wa' := fun v => xw G h x v wa w0 w1 rd wr z jj lt) ⟨hx, hb, hml, hown, hts⟩ (mt_X3_includeInNextF l G (fun k => h (10 + k)) _ wn (sg.1 0) a1 (hC.1) (hv23) (by omega) (hC1.pw hic1 (Nat.le_refl _) (sg.1 0) (Nat.lt_succ_self _)) (hC1.pw hic1 (by omega)) (hC1.ch hic1 (by omega))) (cwV 1 hts gX4_include_X3_includeInNext rfl rfl rfl ⟨rfl, hd_X3_includeInNext⟩ ⟨Nat.le_of_ble_eq_true rfl, Nat.le_of_ble_eq_true rfl⟩) hK hN hP hD hS hA [3, 4, 5, 6, 7, 8, 9, 10] (xc_now _ _ _ _ _ _ _ _ _ _ _ _) (by decide) (xf_now _ _ _ _ _ _ _ _ _ _ _ _) (fun _ => rfl) (fun v => xo_now _ _ _ _ _ _ _ _ _ _ _ _ v) (fun v => xm_now _ _ _ _ _ _ _ _ _ _ _ _ v) 0 3 rfl rfl rfl hl.1 rfl (Nat.le_of_ble_eq_true rfl) ⟨Nat.zero_le _, Nat.zero_le _⟩ dX4_include_40 (fun u40 H locs hw40 hP hD hS => ?_)
        obtain rfl := hw40
        have hP : PP G (xw G h x (stW (oA (oA wn 3 (upd (wn.2 3) (sg.1 0) (wn.2 3 (sg.1 0) &&& (b1 a1 ^^^ (-1))))) 2 (upd (wn.2 2) (sg.1 0) (wn.2 2 (sg.1 0) ||| b1 a1))) (sg.1 0)) wa w0 w1 rd wr z jj lt) H := hP
        have hD : va_D A (xw G h x (stW (oA (oA wn 3 (upd (wn.2 3) (sg.1 0) (wn.2 3 (sg.1 0) &&& (b1 a1 ^^^ (-1))))) 2 (upd (wn.2 2) (sg.1 0) (wn.2 2 (sg.1 0) ||| b1 a1))) (sg.1 0)) wa w0 w1 rd wr z jj lt) := hD
        have hCI := hC1.inc hic1 (v := a1)
        refine lv_aload_n hx hb dX4_include_43 rfl (lv_at hl 0 rfl) ?_
        refine cRi (w := xw G h x (stW (oA (oA wn 3 (upd (wn.2 3) (sg.1 0) (wn.2 3 (sg.1 0) &&& (b1 a1 ^^^ (-1))))) 2 (upd (wn.2 2) (sg.1 0) (wn.2 2 (sg.1 0) ||| b1 a1))) (sg.1 0)) wa w0 w1 rd wr z jj lt) (As := []) (rest := []) ⟨hx, hb, hml, hown, hts⟩ (mt_X4_openLinesF l G h x (stW (oA (oA wn 3 (upd (wn.2 3) (sg.1 0) (wn.2 3 (sg.1 0) &&& (b1 a1 ^^^ (-1))))) 2 (upd (wn.2 2) (sg.1 0) (wn.2 2 (sg.1 0) ||| b1 a1))) (sg.1 0)) wa w0 w1 rd wr z jj lt (sInc sg a1) (hCI) (hv23) (hl120)) (cwV 0 hts gX4_include_X4_openLines rfl rfl rfl ⟨rfl, hd_X4_openLines⟩ ⟨Nat.le_of_ble_eq_true rfl, Nat.le_of_ble_eq_true rfl⟩) hK hN hP 0 4 rfl rfl rfl hl.1 rfl (Nat.le_of_ble_eq_true rfl) ⟨Nat.zero_le _, Nat.zero_le _⟩ dX4_include_44 (fun r44 hw44 => ?_)
        obtain rfl := hw44
        have hc44 : olS (sInc sg a1) ≤ (sInc sg a1).1 4 := cnt_le _ _
        exact W.iret (v := nI (olS (sInc sg a1))) hx hb hr (fun t ht hW => ⟨⟨nI (olS (sInc sg a1)), (x, stW (oA (oA wn 3 (upd (wn.2 3) (sg.1 0) (wn.2 3 (sg.1 0) &&& (b1 a1 ^^^ (-1))))) 2 (upd (wn.2 2) (sg.1 0) (wn.2 2 (sg.1 0) ||| b1 a1))) (sg.1 0), wa, w0, w1, rd, wr, z, jj, lt), rfl, ⟨by rw [incF, if_neg (not_not_intro (inR_t ha1 (by omega))), vN_n (j := a1) (by omega), if_neg (show ¬ (sg.1 8 = 0 ∨ hasb (cvS sg (sg.1 0)) a1 = true) from (fun q => by rcases q with q | q; exact n18 q; exact hol_n (by omega) hn26 q))]; exact RepX.lines hRX (by rw [h81]; exact hCI) (stL_inc sg a1) (fun k hk => v_inc hk) (hic.lo (by omega)), by rw [incA, if_neg (not_not_intro (inR_t ha1 (by omega))), vN_n (j := a1) (by omega), if_neg (show ¬ (sg.1 8 = 0 ∨ hasb (cvS sg (sg.1 0)) a1 = true) from (fun q => by rcases q with q | q; exact n18 q; exact hol_n (by omega) hn26 q))]⟩, show PP G (xw G h x (stW (oA (oA wn 3 (upd (wn.2 3) (sg.1 0) (wn.2 3 (sg.1 0) &&& (b1 a1 ^^^ (-1))))) 2 (upd (wn.2 2) (sg.1 0) (wn.2 2 (sg.1 0) ||| b1 a1))) (sg.1 0)) wa w0 w1 rd wr z jj lt) t.heap by rw [ht]; exact hP⟩, hS.F ht⟩) hS.2.2 dX4_include_47
  · skip
    refine lv_if_ne (tgt := 14) hx hb dX4_include_8 (by decide) (fun c9 => absurd (by decide) c9) (fun _ => ?_)
    refine lv_ldc (v := (-1000000001 : Int32)) hx hb hown (hts (.constant RX4 110 (-1000000001)) (List.mem_of_getElem? (i := 2) rfl)) dX4_include_11 ?_
    exact W.iret (v := (-1000000001 : Int32)) hx hb hr (fun t ht hW => ⟨⟨(-1000000001 : Int32), (x, wn, wa, w0, w1, rd, wr, z, jj, lt), rfl, ⟨by rw [incF, if_pos (inR_f (by omega) hna1)]; exact hRX, by rw [incA, if_pos (inR_f (by omega) hna1)]⟩, show PP G (xw G h x wn wa w0 w1 rd wr z jj lt) t.heap by rw [ht]; exact hP⟩, hS.F ht⟩) hS.2.2 dX4_include_13
set_option maxHeartbeats 1000000 in
set_option maxRecDepth 100000 in
theorem mt_X4_excludeS (l : Launch) (G : gG) (h : Nat → Nat) (sz : Nat) (x : oS) (wn : oS) (wa : oS) (w0 : oS) (w1 : oS) (rd : oS) (wr : oS) (z : oS) (jj : Nat → Nat → Int64) (lt : Int64) (sg : pS) (zz : Nat → Nat → Int64) (a : Int32) (hIS : IS sg) (hRX : RepX x wn wa w0 w1 rd z jj sg zz) : Met l yX4_exclude wsX4_exclude ({ frames := 4, cells := 0, slots := 0, locals := 87 }) (preW G (xw G h x wn wa w0 w1 rd wr z jj lt) sz [.ref (h 0), .int a]) (va_Qi (fun (r : Int32) (v : oS × oS × oS × oS × oS × oS × oS × oS × (Nat → Nat → Int64) × Int64) => RpX v (excF sg a) (zz) ∧ r = excA sg a) (fun v t => PP G (xw G h v.1 v.2.1 v.2.2.1 v.2.2.2.1 v.2.2.2.2.1 v.2.2.2.2.2.1 v.2.2.2.2.2.2.1 v.2.2.2.2.2.2.2.1 v.2.2.2.2.2.2.2.2.1 v.2.2.2.2.2.2.2.2.2) t.heap) (va_A (xw G h x wn wa w0 w1 rd wr z jj lt) sz)) 0 0 (va_A (xw G h x wn wa w0 w1 rd wr z jj lt) sz) := by
  refine Met.ofW (cc := cX4_exclude) (maxL := 2) (ret := (some .int)) (by decide) rfl ?_
  intro p e s m args below meth c s₁ B hml hv
  obtain ⟨ha, hsz, hP, hK, hN, hD0⟩ := hv
  subst ha
  have hx := B.exec
  have hb := B.bytes
  have hr := B.returns
  have hts := atoms_spec (ws := wsX4_exclude) B.pre
  have hown : s.vm.findClass RX4 = some m.cls := findClass_of_methodNamed B.named
  have hlocks := B.notSynchronized
  subst hsz
  have hD := hD0.self (sz := s.heap.size)
  generalize hAe : va_A (xw G h x wn wa w0 w1 rd wr z jj lt) s.heap.size = A at hD ⊢
  have hA : ∀ q : Nat, s.heap.size ≤ q → A q := fun q h => by rw [← hAe]; exact Or.inr h
  clear hAe hD0
  have hS : va_S A s.heap s.heap [] := va_S.rf
  have hiX4 : ∀ w ∈ wsX40, w ∈ wsX4_exclude := fun w h9 => List.mem_cons_of_mem _ (List.mem_append_left _ (List.mem_append_right _ (h9)))
  have k10 := hts (.fieldLink RX4 10 "WovenHistory" "now" "LWovenHistory$Weave;") (List.mem_of_getElem? (i := 1) rfl)
  have k48 := hts (.fieldLink RX4 48 "WovenHistory" "opened" "Z") (List.mem_of_getElem? (i := 3) rfl)
  have hl := lv_entry ([.ref (h 0), .int a]) (n := 2) (Nat.le_of_ble_eq_true rfl)
  rw [lg_entry_eq]
  generalize (lg_sl ([.ref (h 0), .int a]) ++ List.replicate (2 - (lg_sl ([.ref (h 0), .int a])).length) Slot.unset).toArray = ls at hl ⊢
  have hl : lv_has ls 2 [(0, .ref (h 0)), (1, .int a)] := hl
  have hC := hRX.1
  have hic := hIS.ic
  have hv24 := hIS.1
  have hl120 := hIS.2.1
  have ho1 := hIS.2.2.1
  refine lv_aload_n hx hb dX4_exclude_0 rfl (lv_at hl 0 rfl) ?_
  refine va_get (D := gD G) (ci := 4) (v := .ref (h 10)) (C := RX4) (T := TX4) (N := 9) hx hb hts hiX4 hown hK hP 0 (xp_0 _ _ _ _ _ _ _ _ _ _ _ _) rfl 0 (by decide) k10 (fun _ h9 => h9) rfl dX4_exclude_1 ?_
  refine lv_iload_n hx hb dX4_exclude_4 rfl (lv_at hl 1 rfl) ?_
  refine cRi (w := wv G (fun k => h (10 + k)) wn) (As := [.int a]) (rest := []) ⟨hx, hb, hml, hown, hts⟩ (mt_X3_hasVersion l G (fun k => h (10 + k)) wn (sg.1 0) a (hC.1) (by first | assumption | omega)) (cwV 1 hts gX4_exclude_X3_hasVersion rfl rfl rfl ⟨rfl, hd_X3_hasVersion⟩ ⟨Nat.le_of_ble_eq_true rfl, Nat.le_of_ble_eq_true rfl⟩) hK hN (hP.sub [3, 4, 5, 6, 7, 8, 9, 10] (xf_now _ _ _ _ _ _ _ _ _ _ _ _)) 0 3 rfl rfl rfl hl.1 rfl (Nat.le_of_ble_eq_true rfl) ⟨Nat.zero_le _, Nat.zero_le _⟩ dX4_exclude_5 (fun r5 hw5 => ?_)
  rcases hw5 with ⟨rfl, a1, ha1, rfl⟩ | ⟨rfl, hna1⟩
  · skip
    refine lv_if_ne (tgt := 14) hx hb dX4_exclude_8 (by decide) (fun _ => ?_) (fun c9 => absurd c9 (by decide))
    refine lv_aload_n hx hb dX4_exclude_14 rfl (lv_at hl 0 rfl) ?_
    refine va_get (D := gD G) (ci := 4) (v := .int (x.1 7)) (C := RX4) (T := TX4) (N := 9) hx hb hts hiX4 hown hK hP 0 (xp_0 _ _ _ _ _ _ _ _ _ _ _ _) rfl 7 (by decide) k48 (fun _ h9 => h9) rfl dX4_exclude_15 ?_
    refine topE hRX.2.1 ?_
    refine lv_if_eq (tgt := 32) hx hb dX4_exclude_18 (by decide) (fun c18 => ?_) (fun c18 => ?_)
    · skip
      have n18 : (sg.1 8) = 0 := (nI_eq (a := sg.1 8) (b := 0) (by omega) (by omega)).mp c18
      refine lv_ldc (v := (-1000000003 : Int32)) hx hb hown (hts (.constant RX4 148 (-1000000003)) (List.mem_of_getElem? (i := 4) rfl)) dX4_exclude_32 ?_
      exact W.iret (v := (-1000000003 : Int32)) hx hb hr (fun t ht hW => ⟨⟨(-1000000003 : Int32), (x, wn, wa, w0, w1, rd, wr, z, jj, lt), rfl, (by first | exact ⟨by rw [excF, if_neg (not_not_intro (inR_t ha1 (by omega))), vN_n (j := a1) (by omega), if_pos (show sg.1 8 = 0 ∨ ¬ hasb (cvS sg (sg.1 0)) a1 = true from Or.inl n18)]; exact hRX, by rw [excA, if_neg (not_not_intro (inR_t ha1 (by omega))), vN_n (j := a1) (by omega), if_pos (show sg.1 8 = 0 ∨ ¬ hasb (cvS sg (sg.1 0)) a1 = true from Or.inl n18)]⟩ | exact ⟨by rw [excF, if_neg (not_not_intro (inR_t ha1 (by omega))), vN_n (j := a1) (by omega), if_pos (show sg.1 8 = 0 ∨ ¬ hasb (cvS sg (sg.1 0)) a1 = true from Or.inr (hol_n (by omega) hn26))]; exact hRX, by rw [excA, if_neg (not_not_intro (inR_t ha1 (by omega))), vN_n (j := a1) (by omega), if_pos (show sg.1 8 = 0 ∨ ¬ hasb (cvS sg (sg.1 0)) a1 = true from Or.inr (hol_n (by omega) hn26))]⟩), show PP G (xw G h x wn wa w0 w1 rd wr z jj lt) t.heap by rw [ht]; exact hP⟩, hS.F ht⟩) hS.2.2 dX4_exclude_34
    · skip
      have n18 : ¬ ((sg.1 8) = 0) := fun q9 => c18 ((nI_eq (a := sg.1 8) (b := 0) (by omega) (by omega)).mpr q9)
      have h81 : sg.1 8 = 1 := by omega
      have hC1 : CW wn sg (sg.1 0 + 1) := by rw [h81] at hC; exact hC
      have hv23 : sg.1 0 < 24 := hIS.2.2.2.1 h81
      have hic1 : IC sg (sg.1 0 + 1) := by rw [h81] at hic; exact hic
      refine lv_aload_n hx hb dX4_exclude_21 rfl (lv_at hl 0 rfl) ?_
      refine cRi (w := xw G h x wn wa w0 w1 rd wr z jj lt) (As := []) (rest := []) ⟨hx, hb, hml, hown, hts⟩ (mt_X4_openChangesF l G h x wn wa w0 w1 rd wr z jj lt sg (hC1) (hv23) (hl120)) (cwV 0 hts gX4_exclude_X4_openChanges rfl rfl rfl ⟨rfl, hd_X4_openChanges⟩ ⟨Nat.le_of_ble_eq_true rfl, Nat.le_of_ble_eq_true rfl⟩) hK hN hP 0 4 rfl rfl rfl hl.1 rfl (Nat.le_of_ble_eq_true rfl) ⟨Nat.zero_le _, Nat.zero_le _⟩ dX4_exclude_22 (fun r22 hw22 => ?_)
      obtain rfl := hw22
      refine lv_iload_n hx hb dX4_exclude_25 rfl (lv_at hl 1 rfl) ?_
      refine cSi (As := [.int (cvS sg (sg.1 0)), .int (nI a1)]) (rest := []) ⟨hx, hb, hml, hown, hts⟩ (mt_X3_holdsF l (cvS sg (sg.1 0)) (nI a1)) (va_cwS 2 hts gX4_exclude_X3_holds rfl rfl rfl hd_X3_holds ⟨Nat.le_of_ble_eq_true rfl, Nat.le_of_ble_eq_true rfl⟩) rfl hl.1 rfl (Nat.le_of_ble_eq_true rfl) ⟨Nat.zero_le _, Nat.zero_le _⟩ dX4_exclude_26 (fun r26 hw26 => ?_)
      rcases hw26 with ⟨rfl, hy26⟩ | ⟨rfl, hn26⟩
      · skip
        refine lv_if_ne (tgt := 35) hx hb dX4_exclude_29 (by decide) (fun _ => ?_) (fun c9 => absurd c9 (by decide))
        refine lv_aload_n hx hb dX4_exclude_35 rfl (lv_at hl 0 rfl) ?_
        refine va_get (D := gD G) (ci := 4) (v := .ref (h 10)) (C := RX4) (T := TX4) (N := 9) hx hb hts hiX4 hown hK hP 0 (xp_0 _ _ _ _ _ _ _ _ _ _ _ _) rfl 0 (by decide) k10 (fun _ h9 => h9) rfl dX4_exclude_36 ?_
        refine lv_iload_n hx hb dX4_exclude_39 rfl (lv_at hl 1 rfl) ?_
        refine cWv (As := [.int (nI a1)]) (rest := []) (S := oS) (wa := xw G h x wn wa w0 w1 rd wr z jj lt) (wc := wv G (fun k => h (10 + k)) wn) (w1 := fun v => wv G (fun k => h (10 + k)) v) (wa' := fun v => xw G h x v wa w0 w1 rd wr z jj lt) ⟨hx, hb, hml, hown, hts⟩ (mt_X3_excludeFromNextF l G (fun k => h (10 + k)) _ wn (sg.1 0) a1 (hC.1) (hv23) (by omega) (hC1.pw hic1 (Nat.le_refl _) (sg.1 0) (Nat.lt_succ_self _)) (hC1.pw hic1 (by omega)) (hC1.ch hic1 (by omega))) (cwV 1 hts gX4_exclude_X3_excludeFromNext rfl rfl rfl ⟨rfl, hd_X3_excludeFromNext⟩ ⟨Nat.le_of_ble_eq_true rfl, Nat.le_of_ble_eq_true rfl⟩) hK hN hP hD hS hA [3, 4, 5, 6, 7, 8, 9, 10] (xc_now _ _ _ _ _ _ _ _ _ _ _ _) (by decide) (xf_now _ _ _ _ _ _ _ _ _ _ _ _) (fun _ => rfl) (fun v => xo_now _ _ _ _ _ _ _ _ _ _ _ _ v) (fun v => xm_now _ _ _ _ _ _ _ _ _ _ _ _ v) 0 3 rfl rfl rfl hl.1 rfl (Nat.le_of_ble_eq_true rfl) ⟨Nat.zero_le _, Nat.zero_le _⟩ dX4_exclude_40 (fun u40 H locs hw40 hP hD hS => ?_)
        obtain rfl := hw40
        have hP : PP G (xw G h x (stW (oA (oA wn 2 (upd (wn.2 2) (sg.1 0) (wn.2 2 (sg.1 0) &&& (b1 a1 ^^^ (-1))))) 3 (upd (wn.2 3) (sg.1 0) (wn.2 3 (sg.1 0) ||| b1 a1))) (sg.1 0)) wa w0 w1 rd wr z jj lt) H := hP
        have hD : va_D A (xw G h x (stW (oA (oA wn 2 (upd (wn.2 2) (sg.1 0) (wn.2 2 (sg.1 0) &&& (b1 a1 ^^^ (-1))))) 3 (upd (wn.2 3) (sg.1 0) (wn.2 3 (sg.1 0) ||| b1 a1))) (sg.1 0)) wa w0 w1 rd wr z jj lt) := hD
        have hCI := hC1.exc hic1 (v := a1)
        refine lv_aload_n hx hb dX4_exclude_43 rfl (lv_at hl 0 rfl) ?_
        refine cRi (w := xw G h x (stW (oA (oA wn 2 (upd (wn.2 2) (sg.1 0) (wn.2 2 (sg.1 0) &&& (b1 a1 ^^^ (-1))))) 3 (upd (wn.2 3) (sg.1 0) (wn.2 3 (sg.1 0) ||| b1 a1))) (sg.1 0)) wa w0 w1 rd wr z jj lt) (As := []) (rest := []) ⟨hx, hb, hml, hown, hts⟩ (mt_X4_openLinesF l G h x (stW (oA (oA wn 2 (upd (wn.2 2) (sg.1 0) (wn.2 2 (sg.1 0) &&& (b1 a1 ^^^ (-1))))) 3 (upd (wn.2 3) (sg.1 0) (wn.2 3 (sg.1 0) ||| b1 a1))) (sg.1 0)) wa w0 w1 rd wr z jj lt (sExc sg a1) (hCI) (hv23) (hl120)) (cwV 0 hts gX4_exclude_X4_openLines rfl rfl rfl ⟨rfl, hd_X4_openLines⟩ ⟨Nat.le_of_ble_eq_true rfl, Nat.le_of_ble_eq_true rfl⟩) hK hN hP 0 4 rfl rfl rfl hl.1 rfl (Nat.le_of_ble_eq_true rfl) ⟨Nat.zero_le _, Nat.zero_le _⟩ dX4_exclude_44 (fun r44 hw44 => ?_)
        obtain rfl := hw44
        have hc44 : olS (sExc sg a1) ≤ (sExc sg a1).1 4 := cnt_le _ _
        exact W.iret (v := nI (olS (sExc sg a1))) hx hb hr (fun t ht hW => ⟨⟨nI (olS (sExc sg a1)), (x, stW (oA (oA wn 2 (upd (wn.2 2) (sg.1 0) (wn.2 2 (sg.1 0) &&& (b1 a1 ^^^ (-1))))) 3 (upd (wn.2 3) (sg.1 0) (wn.2 3 (sg.1 0) ||| b1 a1))) (sg.1 0), wa, w0, w1, rd, wr, z, jj, lt), rfl, ⟨by rw [excF, if_neg (not_not_intro (inR_t ha1 (by omega))), vN_n (j := a1) (by omega), if_neg (show ¬ (sg.1 8 = 0 ∨ ¬ hasb (cvS sg (sg.1 0)) a1 = true) from (fun q => by rcases q with q | q; exact n18 q; exact q (hol_y (by omega) hy26)))]; exact RepX.lines hRX (by rw [h81]; exact hCI) (stL_exc sg a1) (fun k hk => v_exc hk) (hic.lo (by omega)), by rw [excA, if_neg (not_not_intro (inR_t ha1 (by omega))), vN_n (j := a1) (by omega), if_neg (show ¬ (sg.1 8 = 0 ∨ ¬ hasb (cvS sg (sg.1 0)) a1 = true) from (fun q => by rcases q with q | q; exact n18 q; exact q (hol_y (by omega) hy26)))]⟩, show PP G (xw G h x (stW (oA (oA wn 2 (upd (wn.2 2) (sg.1 0) (wn.2 2 (sg.1 0) &&& (b1 a1 ^^^ (-1))))) 3 (upd (wn.2 3) (sg.1 0) (wn.2 3 (sg.1 0) ||| b1 a1))) (sg.1 0)) wa w0 w1 rd wr z jj lt) t.heap by rw [ht]; exact hP⟩, hS.F ht⟩) hS.2.2 dX4_exclude_47
      · skip
        refine lv_if_ne (tgt := 35) hx hb dX4_exclude_29 (by decide) (fun c9 => absurd (by decide) c9) (fun _ => ?_)
        refine lv_ldc (v := (-1000000003 : Int32)) hx hb hown (hts (.constant RX4 148 (-1000000003)) (List.mem_of_getElem? (i := 4) rfl)) dX4_exclude_32 ?_
        exact W.iret (v := (-1000000003 : Int32)) hx hb hr (fun t ht hW => ⟨⟨(-1000000003 : Int32), (x, wn, wa, w0, w1, rd, wr, z, jj, lt), rfl, (by first | exact ⟨by rw [excF, if_neg (not_not_intro (inR_t ha1 (by omega))), vN_n (j := a1) (by omega), if_pos (show sg.1 8 = 0 ∨ ¬ hasb (cvS sg (sg.1 0)) a1 = true from Or.inl n18)]; exact hRX, by rw [excA, if_neg (not_not_intro (inR_t ha1 (by omega))), vN_n (j := a1) (by omega), if_pos (show sg.1 8 = 0 ∨ ¬ hasb (cvS sg (sg.1 0)) a1 = true from Or.inl n18)]⟩ | exact ⟨by rw [excF, if_neg (not_not_intro (inR_t ha1 (by omega))), vN_n (j := a1) (by omega), if_pos (show sg.1 8 = 0 ∨ ¬ hasb (cvS sg (sg.1 0)) a1 = true from Or.inr (hol_n (by omega) hn26))]; exact hRX, by rw [excA, if_neg (not_not_intro (inR_t ha1 (by omega))), vN_n (j := a1) (by omega), if_pos (show sg.1 8 = 0 ∨ ¬ hasb (cvS sg (sg.1 0)) a1 = true from Or.inr (hol_n (by omega) hn26))]⟩), show PP G (xw G h x wn wa w0 w1 rd wr z jj lt) t.heap by rw [ht]; exact hP⟩, hS.F ht⟩) hS.2.2 dX4_exclude_34
  · skip
    refine lv_if_ne (tgt := 14) hx hb dX4_exclude_8 (by decide) (fun c9 => absurd (by decide) c9) (fun _ => ?_)
    refine lv_ldc (v := (-1000000001 : Int32)) hx hb hown (hts (.constant RX4 110 (-1000000001)) (List.mem_of_getElem? (i := 2) rfl)) dX4_exclude_11 ?_
    exact W.iret (v := (-1000000001 : Int32)) hx hb hr (fun t ht hW => ⟨⟨(-1000000001 : Int32), (x, wn, wa, w0, w1, rd, wr, z, jj, lt), rfl, ⟨by rw [excF, if_pos (inR_f (by omega) hna1)]; exact hRX, by rw [excA, if_pos (inR_f (by omega) hna1)]⟩, show PP G (xw G h x wn wa w0 w1 rd wr z jj lt) t.heap by rw [ht]; exact hP⟩, hS.F ht⟩) hS.2.2 dX4_exclude_13
set_option maxHeartbeats 1000000 in
set_option maxRecDepth 100000 in
theorem mt_X4_putS (l : Launch) (G : gG) (h : Nat → Nat) (sz : Nat) (x : oS) (wn : oS) (wa : oS) (w0 : oS) (w1 : oS) (rd : oS) (wr : oS) (z : oS) (jj : Nat → Nat → Int64) (lt : Int64) (sg : pS) (zz : Nat → Nat → Int64) (i : Int32) (lett : Int32) (hIS : IS sg) (hRX : RepX x wn wa w0 w1 rd z jj sg zz) : Met l yX4_put wsX4_put ({ frames := 4, cells := 0, slots := 0, locals := 96 }) (preW G (xw G h x wn wa w0 w1 rd wr z jj lt) sz [.ref (h 0), .int i, .int lett]) (va_Qi (fun (r : Int32) (v : oS × oS × oS × oS × oS × oS × oS × oS × (Nat → Nat → Int64) × Int64) => RpX v (putF sg i lett) (zz) ∧ r = putA sg i lett) (fun v t => PP G (xw G h v.1 v.2.1 v.2.2.1 v.2.2.2.1 v.2.2.2.2.1 v.2.2.2.2.2.1 v.2.2.2.2.2.2.1 v.2.2.2.2.2.2.2.1 v.2.2.2.2.2.2.2.2.1 v.2.2.2.2.2.2.2.2.2) t.heap) (va_A (xw G h x wn wa w0 w1 rd wr z jj lt) sz)) 0 0 (va_A (xw G h x wn wa w0 w1 rd wr z jj lt) sz) := by
  refine Met.ofW (cc := cX4_put) (maxL := 3) (ret := (some .int)) (by decide) rfl ?_
  intro p e s m args below meth c s₁ B hml hv
  obtain ⟨ha, hsz, hP, hK, hN, hD0⟩ := hv
  subst ha
  have hx := B.exec
  have hb := B.bytes
  have hr := B.returns
  have hts := atoms_spec (ws := wsX4_put) B.pre
  have hown : s.vm.findClass RX4 = some m.cls := findClass_of_methodNamed B.named
  have hlocks := B.notSynchronized
  subst hsz
  have hD := hD0.self (sz := s.heap.size)
  generalize hAe : va_A (xw G h x wn wa w0 w1 rd wr z jj lt) s.heap.size = A at hD ⊢
  have hA : ∀ q : Nat, s.heap.size ≤ q → A q := fun q h => by rw [← hAe]; exact Or.inr h
  clear hAe hD0
  have hS : va_S A s.heap s.heap [] := va_S.rf
  have hiX4 : ∀ w ∈ wsX40, w ∈ wsX4_put := fun w h9 => List.mem_cons_of_mem _ (List.mem_append_left _ (List.mem_append_right _ (h9)))
  have k48 := hts (.fieldLink RX4 48 "WovenHistory" "opened" "Z") (List.mem_of_getElem? (i := 2) rfl)
  have k10 := hts (.fieldLink RX4 10 "WovenHistory" "now" "LWovenHistory$Weave;") (List.mem_of_getElem? (i := 4) rfl)
  have hiX3 : ∀ w ∈ wsX30, w ∈ wsX4_put := fun w h9 => List.mem_cons_of_mem _ (List.mem_append_right _ (h9))
  have k85 : (Cond.fieldLinkNest "WovenHistory" 85 "WovenHistory$Weave" "lines" "I" "WovenHistory").before _ s = true := va_Nw.use (A := ([.ref (h 0), .int i, .int lett] : List Value).toArray) rfl (hN.1 ("WovenHistory", 85, "WovenHistory$Weave", "lines", "I") (List.mem_of_getElem? (i := 13) rfl))
  have hl := lv_entry ([.ref (h 0), .int i, .int lett]) (n := 3) (Nat.le_of_ble_eq_true rfl)
  rw [lg_entry_eq]
  generalize (lg_sl ([.ref (h 0), .int i, .int lett]) ++ List.replicate (3 - (lg_sl ([.ref (h 0), .int i, .int lett])).length) Slot.unset).toArray = ls at hl ⊢
  have hl : lv_has ls 3 [(0, .ref (h 0)), (1, .int i), (2, .int lett)] := hl
  have hC := hRX.1
  have hic := hIS.ic
  have hv24 := hIS.1
  have hl120 := hIS.2.1
  have ho1 := hIS.2.2.1
  refine lv_iload_n hx hb dX4_put_0 rfl (lv_at hl 1 rfl) ?_
  refine lv_if_lt (tgt := 11) hx hb dX4_put_1 (by decide) (fun c1 => ?_) (fun c1 => ?_)
  · skip
    refine lv_ldc (v := (-1000000002 : Int32)) hx hb hown (hts (.constant RX4 56 (-1000000002)) (List.mem_of_getElem? (i := 1) rfl)) dX4_put_11 ?_
    exact W.iret (v := (-1000000002 : Int32)) hx hb hr (fun t ht hW => ⟨⟨(-1000000002 : Int32), (x, wn, wa, w0, w1, rd, wr, z, jj, lt), rfl, (by first | exact ⟨by rw [putF, if_pos (Or.inl c1)]; exact hRX, by rw [putA, if_pos (Or.inl c1)]⟩ | exact ⟨by rw [putF, if_pos (Or.inr hn5)]; exact hRX, by rw [putA, if_pos (Or.inr hn5)]⟩), show PP G (xw G h x wn wa w0 w1 rd wr z jj lt) t.heap by rw [ht]; exact hP⟩, hS.F ht⟩) hS.2.2 dX4_put_13
  · skip
    obtain ⟨i1, hi1, rfl⟩ := nI_of1 c1
    refine lv_iload_n hx hb dX4_put_4 rfl (lv_at hl 2 rfl) ?_
    refine cSi (As := [.int lett]) (rest := []) ⟨hx, hb, hml, hown, hts⟩ (mt_X4_isSignF l lett) (va_cwS 1 hts gX4_put_X4_isSign rfl rfl rfl hd_X4_isSign ⟨Nat.le_of_ble_eq_true rfl, Nat.le_of_ble_eq_true rfl⟩) rfl hl.1 rfl (Nat.le_of_ble_eq_true rfl) ⟨Nat.zero_le _, Nat.zero_le _⟩ dX4_put_5 (fun r5 hw5 => ?_)
    rcases hw5 with ⟨rfl, hy5⟩ | ⟨rfl, hn5⟩
    · skip
      refine lv_if_ne (tgt := 14) hx hb dX4_put_8 (by decide) (fun _ => ?_) (fun c9 => absurd c9 (by decide))
      refine lv_aload_n hx hb dX4_put_14 rfl (lv_at hl 0 rfl) ?_
      refine va_get (D := gD G) (ci := 4) (v := .int (x.1 7)) (C := RX4) (T := TX4) (N := 9) hx hb hts hiX4 hown hK hP 0 (xp_0 _ _ _ _ _ _ _ _ _ _ _ _) rfl 7 (by decide) k48 (fun _ h9 => h9) rfl dX4_put_15 ?_
      refine topE hRX.2.1 ?_
      refine lv_if_eq (tgt := 29) hx hb dX4_put_18 (by decide) (fun c18 => ?_) (fun c18 => ?_)
      · skip
        have n18 : (sg.1 8) = 0 := (nI_eq (a := sg.1 8) (b := 0) (by omega) (by omega)).mp c18
        refine lv_ldc (v := (-1000000003 : Int32)) hx hb hown (hts (.constant RX4 148 (-1000000003)) (List.mem_of_getElem? (i := 3) rfl)) dX4_put_29 ?_
        exact W.iret (v := (-1000000003 : Int32)) hx hb hr (fun t ht hW => ⟨⟨(-1000000003 : Int32), (x, wn, wa, w0, w1, rd, wr, z, jj, lt), rfl, (by first | exact ⟨by rw [putF, if_neg (fun q => by rcases q with q | q; exact c1 q; exact q hy5), if_pos (Or.inl n18)]; exact hRX, by rw [putA, if_neg (fun q => by rcases q with q | q; exact c1 q; exact q hy5), if_pos (Or.inl n18)]⟩ | exact ⟨by rw [putF, if_neg (fun q => by rcases q with q | q; exact c1 q; exact q hy5), vN_n' hi1, if_pos (show sg.1 8 = 0 ∨ olS sg < i1 from Or.inr (by omega))]; exact hRX, by rw [putA, if_neg (fun q => by rcases q with q | q; exact c1 q; exact q hy5), vN_n' hi1, if_pos (show sg.1 8 = 0 ∨ olS sg < i1 from Or.inr (by omega))]⟩), show PP G (xw G h x wn wa w0 w1 rd wr z jj lt) t.heap by rw [ht]; exact hP⟩, hS.F ht⟩) hS.2.2 dX4_put_31
      · skip
        have n18 : ¬ ((sg.1 8) = 0) := fun q9 => c18 ((nI_eq (a := sg.1 8) (b := 0) (by omega) (by omega)).mpr q9)
        have h81 : sg.1 8 = 1 := by omega
        have hC1 : CW wn sg (sg.1 0 + 1) := by rw [h81] at hC; exact hC
        have hv23 : sg.1 0 < 24 := hIS.2.2.2.1 h81
        refine lv_iload_n hx hb dX4_put_21 rfl (lv_at hl 1 rfl) ?_
        refine lv_aload_n hx hb dX4_put_22 rfl (lv_at hl 0 rfl) ?_
        refine cRi (w := xw G h x wn wa w0 w1 rd wr z jj lt) (As := []) (rest := [.int (nI i1)]) ⟨hx, hb, hml, hown, hts⟩ (mt_X4_openLinesF l G h x wn wa w0 w1 rd wr z jj lt sg (hC1) (hv23) (hl120)) (cwV 0 hts gX4_put_X4_openLines rfl rfl rfl ⟨rfl, hd_X4_openLines⟩ ⟨Nat.le_of_ble_eq_true rfl, Nat.le_of_ble_eq_true rfl⟩) hK hN hP 0 4 rfl rfl rfl hl.1 rfl (Nat.le_of_ble_eq_true rfl) ⟨Nat.zero_le _, Nat.zero_le _⟩ dX4_put_23 (fun r23 hw23 => ?_)
        obtain rfl := hw23
        have hc23 : olS sg ≤ sg.1 4 := cnt_le _ _
        refine lv_icmp_le (tgt := 32) hx hb dX4_put_26 (by decide) (fun c26 => ?_) (fun c26 => ?_)
        · skip
          have n26 : i1 ≤ (olS sg) := (nI_leI (a := i1) (b := olS sg) (by omega) (by omega)).mp c26
          refine lv_aload_n hx hb dX4_put_32 rfl (lv_at hl 0 rfl) ?_
          refine va_get (D := gD G) (ci := 4) (v := .ref (h 10)) (C := RX4) (T := TX4) (N := 9) hx hb hts hiX4 hown hK hP 0 (xp_0 _ _ _ _ _ _ _ _ _ _ _ _) rfl 0 (by decide) k10 (fun _ h9 => h9) rfl dX4_put_33 ?_
          refine va_getN (D := gD G) (ci := 3) (v := .int (wn.1 5)) (C := RX3) (T := TX3) (N := 9) hx hb hts hiX3 hown hK hP 3 (xp_3 _ _ _ _ _ _ _ _ _ _ _ _) rfl 5 (by decide) k85 (fun _ h9 => h9) rfl dX4_put_36 ?_
          refine topE hC.2.1 ?_
          refine lv_bipush (v := nI 120) hx hb dX4_put_39 (by decide) ?_
          refine lv_icmp_lt (tgt := 47) hx hb dX4_put_41 (by decide) (fun c41 => ?_) (fun c41 => ?_)
          · skip
            have n41 : (sg.1 4) < 120 := (nI_ltI (a := sg.1 4) (b := 120) (by omega) (by omega)).mp c41
            refine lv_aload_n hx hb dX4_put_47 rfl (lv_at hl 0 rfl) ?_
            refine va_get (D := gD G) (ci := 4) (v := .ref (h 10)) (C := RX4) (T := TX4) (N := 9) hx hb hts hiX4 hown hK hP 0 (xp_0 _ _ _ _ _ _ _ _ _ _ _ _) rfl 0 (by decide) k10 (fun _ h9 => h9) rfl dX4_put_48 ?_
            refine lv_iload_n hx hb dX4_put_51 rfl (lv_at hl 1 rfl) ?_
            refine lv_iload_n hx hb dX4_put_52 rfl (lv_at hl 2 rfl) ?_
            refine cWi (As := [.int (nI i1), .int lett]) (rest := []) (S := oS) (wa := xw G h x wn wa w0 w1 rd wr z jj lt) (wc := wv G (fun k => h (10 + k)) wn) (w1 := fun v => wv G (fun k => h (10 + k)) v) (wa' := fun v => xw G h x v wa w0 w1 rd wr z jj lt) ⟨hx, hb, hml, hown, hts⟩ (mt_X3_putByNextF l G (fun k => h (10 + k)) _ wn (sg.1 0) (sg.1 4) i1 lett (hC.1) (hC.2.1) (hv23) (by first | assumption | omega) (by omega)) (cwV 2 hts gX4_put_X3_putByNext rfl rfl rfl ⟨rfl, hd_X3_putByNext⟩ ⟨Nat.le_of_ble_eq_true rfl, Nat.le_of_ble_eq_true rfl⟩) hK hN hP hD hS hA [3, 4, 5, 6, 7, 8, 9, 10] (xc_now _ _ _ _ _ _ _ _ _ _ _ _) (by decide) (xf_now _ _ _ _ _ _ _ _ _ _ _ _) (fun _ => rfl) (fun v => xo_now _ _ _ _ _ _ _ _ _ _ _ _ v) (fun v => xm_now _ _ _ _ _ _ _ _ _ _ _ _ v) 0 3 rfl rfl rfl hl.1 rfl (Nat.le_of_ble_eq_true rfl) ⟨Nat.zero_le _, Nat.zero_le _⟩ dX4_put_53 (fun r53 u53 H locs hw53 hP hD hS => ?_)
            obtain ⟨rfl, rfl⟩ := hw53
            have hP : PP G (xw G h x (insW wn (posP (sdb (wn.2 7) (wn.2 8) (wn.2 4 (sg.1 0))) (sg.1 4) i1) (sg.1 4) lett (nI (sg.1 0)) (nI 0)) wa w0 w1 rd wr z jj lt) H := hP
            have hD : va_D A (xw G h x (insW wn (posP (sdb (wn.2 7) (wn.2 8) (wn.2 4 (sg.1 0))) (sg.1 4) i1) (sg.1 4) lett (nI (sg.1 0)) (nI 0)) wa w0 w1 rd wr z jj lt) := hD
            exact W.iret (v := nI (posP (sdb (wn.2 7) (wn.2 8) (wn.2 4 (sg.1 0))) (sg.1 4) i1)) hx hb hr (fun t ht hW => ⟨⟨nI (posP (sdb (wn.2 7) (wn.2 8) (wn.2 4 (sg.1 0))) (sg.1 4) i1), (x, insW wn (posP (sdb (wn.2 7) (wn.2 8) (wn.2 4 (sg.1 0))) (sg.1 4) i1) (sg.1 4) lett (nI (sg.1 0)) (nI 0), wa, w0, w1, rd, wr, z, jj, lt), rfl, ⟨by rw [putF, if_neg (fun q => by rcases q with q | q; exact c1 q; exact q hy5), vN_n' hi1, if_neg (show ¬ (sg.1 8 = 0 ∨ olS sg < i1) by omega), if_neg (show ¬ sg.1 4 = 120 by omega)]; exact RepX.lines hRX (by rw [h81]; exact hC1.put) (stL_ins sg _ lett) (fun k hk => v_put hk) (hic.lo (by omega)), by rw [putA, if_neg (fun q => by rcases q with q | q; exact c1 q; exact q hy5), vN_n' hi1, if_neg (show ¬ (sg.1 8 = 0 ∨ olS sg < i1) by omega), if_neg (show ¬ sg.1 4 = 120 by omega)]; exact congrArg nI hC1.pos⟩, show PP G (xw G h x (insW wn (posP (sdb (wn.2 7) (wn.2 8) (wn.2 4 (sg.1 0))) (sg.1 4) i1) (sg.1 4) lett (nI (sg.1 0)) (nI 0)) wa w0 w1 rd wr z jj lt) t.heap by rw [ht]; exact hP⟩, hS.F ht⟩) hS.2.2 dX4_put_56
          · skip
            have n41 : ¬ ((sg.1 4) < 120) := fun q9 => c41 ((nI_ltI (a := sg.1 4) (b := 120) (by omega) (by omega)).mpr q9)
            refine lv_ldc (v := (-1000000004 : Int32)) hx hb hown (hts (.constant RX4 64 (-1000000004)) (List.mem_of_getElem? (i := 5) rfl)) dX4_put_44 ?_
            exact W.iret (v := (-1000000004 : Int32)) hx hb hr (fun t ht hW => ⟨⟨(-1000000004 : Int32), (x, wn, wa, w0, w1, rd, wr, z, jj, lt), rfl, ⟨by rw [putF, if_neg (fun q => by rcases q with q | q; exact c1 q; exact q hy5), vN_n' hi1, if_neg (show ¬ (sg.1 8 = 0 ∨ olS sg < i1) by omega), if_pos (show sg.1 4 = 120 by omega)]; exact hRX, by rw [putA, if_neg (fun q => by rcases q with q | q; exact c1 q; exact q hy5), vN_n' hi1, if_neg (show ¬ (sg.1 8 = 0 ∨ olS sg < i1) by omega), if_pos (show sg.1 4 = 120 by omega)]⟩, show PP G (xw G h x wn wa w0 w1 rd wr z jj lt) t.heap by rw [ht]; exact hP⟩, hS.F ht⟩) hS.2.2 dX4_put_46
        · skip
          have n26 : ¬ (i1 ≤ (olS sg)) := fun q9 => c26 ((nI_leI (a := i1) (b := olS sg) (by omega) (by omega)).mpr q9)
          refine lv_ldc (v := (-1000000003 : Int32)) hx hb hown (hts (.constant RX4 148 (-1000000003)) (List.mem_of_getElem? (i := 3) rfl)) dX4_put_29 ?_
          exact W.iret (v := (-1000000003 : Int32)) hx hb hr (fun t ht hW => ⟨⟨(-1000000003 : Int32), (x, wn, wa, w0, w1, rd, wr, z, jj, lt), rfl, (by first | exact ⟨by rw [putF, if_neg (fun q => by rcases q with q | q; exact c1 q; exact q hy5), if_pos (Or.inl n18)]; exact hRX, by rw [putA, if_neg (fun q => by rcases q with q | q; exact c1 q; exact q hy5), if_pos (Or.inl n18)]⟩ | exact ⟨by rw [putF, if_neg (fun q => by rcases q with q | q; exact c1 q; exact q hy5), vN_n' hi1, if_pos (show sg.1 8 = 0 ∨ olS sg < i1 from Or.inr (by omega))]; exact hRX, by rw [putA, if_neg (fun q => by rcases q with q | q; exact c1 q; exact q hy5), vN_n' hi1, if_pos (show sg.1 8 = 0 ∨ olS sg < i1 from Or.inr (by omega))]⟩), show PP G (xw G h x wn wa w0 w1 rd wr z jj lt) t.heap by rw [ht]; exact hP⟩, hS.F ht⟩) hS.2.2 dX4_put_31
    · skip
      refine lv_if_ne (tgt := 14) hx hb dX4_put_8 (by decide) (fun c9 => absurd (by decide) c9) (fun _ => ?_)
      refine lv_ldc (v := (-1000000002 : Int32)) hx hb hown (hts (.constant RX4 56 (-1000000002)) (List.mem_of_getElem? (i := 1) rfl)) dX4_put_11 ?_
      exact W.iret (v := (-1000000002 : Int32)) hx hb hr (fun t ht hW => ⟨⟨(-1000000002 : Int32), (x, wn, wa, w0, w1, rd, wr, z, jj, lt), rfl, (by first | exact ⟨by rw [putF, if_pos (Or.inl c1)]; exact hRX, by rw [putA, if_pos (Or.inl c1)]⟩ | exact ⟨by rw [putF, if_pos (Or.inr hn5)]; exact hRX, by rw [putA, if_pos (Or.inr hn5)]⟩), show PP G (xw G h x wn wa w0 w1 rd wr z jj lt) t.heap by rw [ht]; exact hP⟩, hS.F ht⟩) hS.2.2 dX4_put_13
set_option maxHeartbeats 1000000 in
set_option maxRecDepth 100000 in
theorem mt_X4_takeS (l : Launch) (G : gG) (h : Nat → Nat) (sz : Nat) (x : oS) (wn : oS) (wa : oS) (w0 : oS) (w1 : oS) (rd : oS) (wr : oS) (z : oS) (jj : Nat → Nat → Int64) (lt : Int64) (sg : pS) (zz : Nat → Nat → Int64) (i : Int32) (hIS : IS sg) (hRX : RepX x wn wa w0 w1 rd z jj sg zz) : Met l yX4_take wsX4_take ({ frames := 4, cells := 0, slots := 0, locals := 93 }) (preW G (xw G h x wn wa w0 w1 rd wr z jj lt) sz [.ref (h 0), .int i]) (va_Qi (fun (r : Int32) (v : oS × oS × oS × oS × oS × oS × oS × oS × (Nat → Nat → Int64) × Int64) => RpX v (takF sg i) (zz) ∧ r = takA sg i) (fun v t => PP G (xw G h v.1 v.2.1 v.2.2.1 v.2.2.2.1 v.2.2.2.2.1 v.2.2.2.2.2.1 v.2.2.2.2.2.2.1 v.2.2.2.2.2.2.2.1 v.2.2.2.2.2.2.2.2.1 v.2.2.2.2.2.2.2.2.2) t.heap) (va_A (xw G h x wn wa w0 w1 rd wr z jj lt) sz)) 0 0 (va_A (xw G h x wn wa w0 w1 rd wr z jj lt) sz) := by
  refine Met.ofW (cc := cX4_take) (maxL := 2) (ret := (some .int)) (by decide) rfl ?_
  intro p e s m args below meth c s₁ B hml hv
  obtain ⟨ha, hsz, hP, hK, hN, hD0⟩ := hv
  subst ha
  have hx := B.exec
  have hb := B.bytes
  have hr := B.returns
  have hts := atoms_spec (ws := wsX4_take) B.pre
  have hown : s.vm.findClass RX4 = some m.cls := findClass_of_methodNamed B.named
  have hlocks := B.notSynchronized
  subst hsz
  have hD := hD0.self (sz := s.heap.size)
  generalize hAe : va_A (xw G h x wn wa w0 w1 rd wr z jj lt) s.heap.size = A at hD ⊢
  have hA : ∀ q : Nat, s.heap.size ≤ q → A q := fun q h => by rw [← hAe]; exact Or.inr h
  clear hAe hD0
  have hS : va_S A s.heap s.heap [] := va_S.rf
  have hiX4 : ∀ w ∈ wsX40, w ∈ wsX4_take := fun w h9 => List.mem_cons_of_mem _ (List.mem_append_left _ (List.mem_append_right _ (h9)))
  have k48 := hts (.fieldLink RX4 48 "WovenHistory" "opened" "Z") (List.mem_of_getElem? (i := 2) rfl)
  have k10 := hts (.fieldLink RX4 10 "WovenHistory" "now" "LWovenHistory$Weave;") (List.mem_of_getElem? (i := 4) rfl)
  have hl := lv_entry ([.ref (h 0), .int i]) (n := 2) (Nat.le_of_ble_eq_true rfl)
  rw [lg_entry_eq]
  generalize (lg_sl ([.ref (h 0), .int i]) ++ List.replicate (2 - (lg_sl ([.ref (h 0), .int i])).length) Slot.unset).toArray = ls at hl ⊢
  have hl : lv_has ls 2 [(0, .ref (h 0)), (1, .int i)] := hl
  have hC := hRX.1
  have hic := hIS.ic
  have hv24 := hIS.1
  have hl120 := hIS.2.1
  have ho1 := hIS.2.2.1
  refine lv_iload_n hx hb dX4_take_0 rfl (lv_at hl 1 rfl) ?_
  refine lv_if_ge (tgt := 7) hx hb dX4_take_1 (by decide) (fun c1 => ?_) (fun c1 => ?_)
  · skip
    obtain ⟨i1, hi1, rfl⟩ := nI_of1 (fun q => absurd c1 (Int32.not_le.mpr q))
    refine lv_aload_n hx hb dX4_take_7 rfl (lv_at hl 0 rfl) ?_
    refine va_get (D := gD G) (ci := 4) (v := .int (x.1 7)) (C := RX4) (T := TX4) (N := 9) hx hb hts hiX4 hown hK hP 0 (xp_0 _ _ _ _ _ _ _ _ _ _ _ _) rfl 7 (by decide) k48 (fun _ h9 => h9) rfl dX4_take_8 ?_
    refine topE hRX.2.1 ?_
    refine lv_if_eq (tgt := 22) hx hb dX4_take_11 (by decide) (fun c11 => ?_) (fun c11 => ?_)
    · skip
      have n11 : (sg.1 8) = 0 := (nI_eq (a := sg.1 8) (b := 0) (by omega) (by omega)).mp c11
      refine lv_ldc (v := (-1000000003 : Int32)) hx hb hown (hts (.constant RX4 148 (-1000000003)) (List.mem_of_getElem? (i := 3) rfl)) dX4_take_22 ?_
      exact W.iret (v := (-1000000003 : Int32)) hx hb hr (fun t ht hW => ⟨⟨(-1000000003 : Int32), (x, wn, wa, w0, w1, rd, wr, z, jj, lt), rfl, (by first | exact ⟨by rw [takF, if_neg (nI_pos (by omega)), vN_n' hi1, if_pos (show sg.1 8 = 0 ∨ olS sg ≤ i1 from Or.inl n11)]; exact hRX, by rw [takA, if_neg (nI_pos (by omega)), vN_n' hi1, if_pos (show sg.1 8 = 0 ∨ olS sg ≤ i1 from Or.inl n11)]⟩ | exact ⟨by rw [takF, if_neg (nI_pos (by omega)), vN_n' hi1, if_pos (show sg.1 8 = 0 ∨ olS sg ≤ i1 from Or.inr (by omega))]; exact hRX, by rw [takA, if_neg (nI_pos (by omega)), vN_n' hi1, if_pos (show sg.1 8 = 0 ∨ olS sg ≤ i1 from Or.inr (by omega))]⟩), show PP G (xw G h x wn wa w0 w1 rd wr z jj lt) t.heap by rw [ht]; exact hP⟩, hS.F ht⟩) hS.2.2 dX4_take_24
    · skip
      have n11 : ¬ ((sg.1 8) = 0) := fun q9 => c11 ((nI_eq (a := sg.1 8) (b := 0) (by omega) (by omega)).mpr q9)
      have h81 : sg.1 8 = 1 := by omega
      have hC1 : CW wn sg (sg.1 0 + 1) := by rw [h81] at hC; exact hC
      have hv23 : sg.1 0 < 24 := hIS.2.2.2.1 h81
      refine lv_iload_n hx hb dX4_take_14 rfl (lv_at hl 1 rfl) ?_
      refine lv_aload_n hx hb dX4_take_15 rfl (lv_at hl 0 rfl) ?_
      refine cRi (w := xw G h x wn wa w0 w1 rd wr z jj lt) (As := []) (rest := [.int (nI i1)]) ⟨hx, hb, hml, hown, hts⟩ (mt_X4_openLinesF l G h x wn wa w0 w1 rd wr z jj lt sg (hC1) (hv23) (hl120)) (cwV 0 hts gX4_take_X4_openLines rfl rfl rfl ⟨rfl, hd_X4_openLines⟩ ⟨Nat.le_of_ble_eq_true rfl, Nat.le_of_ble_eq_true rfl⟩) hK hN hP 0 4 rfl rfl rfl hl.1 rfl (Nat.le_of_ble_eq_true rfl) ⟨Nat.zero_le _, Nat.zero_le _⟩ dX4_take_16 (fun r16 hw16 => ?_)
      obtain rfl := hw16
      have hc16 : olS sg ≤ sg.1 4 := cnt_le _ _
      refine lv_icmp_lt (tgt := 25) hx hb dX4_take_19 (by decide) (fun c19 => ?_) (fun c19 => ?_)
      · skip
        have n19 : i1 < (olS sg) := (nI_ltI (a := i1) (b := olS sg) (by omega) (by omega)).mp c19
        refine lv_aload_n hx hb dX4_take_25 rfl (lv_at hl 0 rfl) ?_
        refine va_get (D := gD G) (ci := 4) (v := .ref (h 10)) (C := RX4) (T := TX4) (N := 9) hx hb hts hiX4 hown hK hP 0 (xp_0 _ _ _ _ _ _ _ _ _ _ _ _) rfl 0 (by decide) k10 (fun _ h9 => h9) rfl dX4_take_26 ?_
        refine lv_iload_n hx hb dX4_take_29 rfl (lv_at hl 1 rfl) ?_
        refine cWi (As := [.int (nI i1)]) (rest := []) (S := oS) (wa := xw G h x wn wa w0 w1 rd wr z jj lt) (wc := wv G (fun k => h (10 + k)) wn) (w1 := fun v => wv G (fun k => h (10 + k)) v) (wa' := fun v => xw G h x v wa w0 w1 rd wr z jj lt) ⟨hx, hb, hml, hown, hts⟩ (mt_X3_takeByNextF l G (fun k => h (10 + k)) _ wn (sg.1 0) (sg.1 4) i1 (hC.1) (hC.2.1) (hv23) (by first | assumption | omega) (by rw [hC1.ol]; exact n19)) (cwV 1 hts gX4_take_X3_takeByNext rfl rfl rfl ⟨rfl, hd_X3_takeByNext⟩ ⟨Nat.le_of_ble_eq_true rfl, Nat.le_of_ble_eq_true rfl⟩) hK hN hP hD hS hA [3, 4, 5, 6, 7, 8, 9, 10] (xc_now _ _ _ _ _ _ _ _ _ _ _ _) (by decide) (xf_now _ _ _ _ _ _ _ _ _ _ _ _) (fun _ => rfl) (fun v => xo_now _ _ _ _ _ _ _ _ _ _ _ _ v) (fun v => xm_now _ _ _ _ _ _ _ _ _ _ _ _ v) 0 3 rfl rfl rfl hl.1 rfl (Nat.le_of_ble_eq_true rfl) ⟨Nat.zero_le _, Nat.zero_le _⟩ dX4_take_30 (fun r30 u30 H locs hw30 hP hD hS => ?_)
        obtain ⟨rfl, rfl⟩ := hw30
        have hP : PP G (xw G h x (tkW wn (fndN (sdb (wn.2 7) (wn.2 8) (wn.2 4 (sg.1 0))) (sg.1 4) i1) (sg.1 0) (sg.1 4)) wa w0 w1 rd wr z jj lt) H := hP
        have hD : va_D A (xw G h x (tkW wn (fndN (sdb (wn.2 7) (wn.2 8) (wn.2 4 (sg.1 0))) (sg.1 4) i1) (sg.1 0) (sg.1 4)) wa w0 w1 rd wr z jj lt) := hD
        exact W.iret (v := wn.2 6 (fndN (sdb (wn.2 7) (wn.2 8) (wn.2 4 (sg.1 0))) (sg.1 4) i1)) hx hb hr (fun t ht hW => ⟨⟨wn.2 6 (fndN (sdb (wn.2 7) (wn.2 8) (wn.2 4 (sg.1 0))) (sg.1 4) i1), (x, tkW wn (fndN (sdb (wn.2 7) (wn.2 8) (wn.2 4 (sg.1 0))) (sg.1 4) i1) (sg.1 0) (sg.1 4), wa, w0, w1, rd, wr, z, jj, lt), rfl, ⟨by rw [takF, if_neg (nI_pos (by omega)), vN_n' hi1, if_neg (show ¬ (sg.1 8 = 0 ∨ olS sg ≤ i1) by omega)]; exact RepX.lines hRX (by rw [h81]; exact hC1.tk' n19) (stL_take sg _) (fun k hk => v_tak hk) (hic.lo (by omega)), by rw [takA, if_neg (nI_pos (by omega)), vN_n' hi1, if_neg (show ¬ (sg.1 8 = 0 ∨ olS sg ≤ i1) by omega), hC1.fnd]; exact hC.2.2.2.2.2.2.1 _ (fnd_lt n19)⟩, show PP G (xw G h x (tkW wn (fndN (sdb (wn.2 7) (wn.2 8) (wn.2 4 (sg.1 0))) (sg.1 4) i1) (sg.1 0) (sg.1 4)) wa w0 w1 rd wr z jj lt) t.heap by rw [ht]; exact hP⟩, hS.F ht⟩) hS.2.2 dX4_take_33
      · skip
        have n19 : ¬ (i1 < (olS sg)) := fun q9 => c19 ((nI_ltI (a := i1) (b := olS sg) (by omega) (by omega)).mpr q9)
        refine lv_ldc (v := (-1000000003 : Int32)) hx hb hown (hts (.constant RX4 148 (-1000000003)) (List.mem_of_getElem? (i := 3) rfl)) dX4_take_22 ?_
        exact W.iret (v := (-1000000003 : Int32)) hx hb hr (fun t ht hW => ⟨⟨(-1000000003 : Int32), (x, wn, wa, w0, w1, rd, wr, z, jj, lt), rfl, (by first | exact ⟨by rw [takF, if_neg (nI_pos (by omega)), vN_n' hi1, if_pos (show sg.1 8 = 0 ∨ olS sg ≤ i1 from Or.inl n11)]; exact hRX, by rw [takA, if_neg (nI_pos (by omega)), vN_n' hi1, if_pos (show sg.1 8 = 0 ∨ olS sg ≤ i1 from Or.inl n11)]⟩ | exact ⟨by rw [takF, if_neg (nI_pos (by omega)), vN_n' hi1, if_pos (show sg.1 8 = 0 ∨ olS sg ≤ i1 from Or.inr (by omega))]; exact hRX, by rw [takA, if_neg (nI_pos (by omega)), vN_n' hi1, if_pos (show sg.1 8 = 0 ∨ olS sg ≤ i1 from Or.inr (by omega))]⟩), show PP G (xw G h x wn wa w0 w1 rd wr z jj lt) t.heap by rw [ht]; exact hP⟩, hS.F ht⟩) hS.2.2 dX4_take_24
  · skip
    refine lv_ldc (v := (-1000000002 : Int32)) hx hb hown (hts (.constant RX4 56 (-1000000002)) (List.mem_of_getElem? (i := 1) rfl)) dX4_take_4 ?_
    exact W.iret (v := (-1000000002 : Int32)) hx hb hr (fun t ht hW => ⟨⟨(-1000000002 : Int32), (x, wn, wa, w0, w1, rd, wr, z, jj, lt), rfl, ⟨by rw [takF, if_pos (Int32.not_le.mp c1)]; exact hRX, by rw [takA, if_pos (Int32.not_le.mp c1)]⟩, show PP G (xw G h x wn wa w0 w1 rd wr z jj lt) t.heap by rw [ht]; exact hP⟩, hS.F ht⟩) hS.2.2 dX4_take_6
set_option maxHeartbeats 1000000 in
set_option maxRecDepth 100000 in
theorem mt_X4_closeS (l : Launch) (G : gG) (h : Nat → Nat) (sz : Nat) (x : oS) (wn : oS) (wa : oS) (w0 : oS) (w1 : oS) (rd : oS) (wr : oS) (z : oS) (jj : Nat → Nat → Int64) (lt : Int64) (sg : pS) (zz : Nat → Nat → Int64) (hIS : IS sg) (hRX : RepX x wn wa w0 w1 rd z jj sg zz) : Met l yX4_close wsX4_close ({ frames := 1, cells := 0, slots := 0, locals := 20 }) (preW G (xw G h x wn wa w0 w1 rd wr z jj lt) sz [.ref (h 0)]) (va_Qi (fun (r : Int32) (v : oS × oS × oS × oS × oS × oS × oS × oS × (Nat → Nat → Int64) × Int64) => RpX v (clsF sg) (zz) ∧ r = clsA sg) (fun v t => PP G (xw G h v.1 v.2.1 v.2.2.1 v.2.2.2.1 v.2.2.2.2.1 v.2.2.2.2.2.1 v.2.2.2.2.2.2.1 v.2.2.2.2.2.2.2.1 v.2.2.2.2.2.2.2.2.1 v.2.2.2.2.2.2.2.2.2) t.heap) (va_A (xw G h x wn wa w0 w1 rd wr z jj lt) sz)) 0 0 (va_A (xw G h x wn wa w0 w1 rd wr z jj lt) sz) := by
  refine Met.ofW (cc := cX4_close) (maxL := 1) (ret := (some .int)) (by decide) rfl ?_
  intro p e s m args below meth c s₁ B hml hv
  obtain ⟨ha, hsz, hP, hK, hN, hD0⟩ := hv
  subst ha
  have hx := B.exec
  have hb := B.bytes
  have hr := B.returns
  have hts := atoms_spec (ws := wsX4_close) B.pre
  have hown : s.vm.findClass RX4 = some m.cls := findClass_of_methodNamed B.named
  have hlocks := B.notSynchronized
  subst hsz
  have hD := hD0.self (sz := s.heap.size)
  generalize hAe : va_A (xw G h x wn wa w0 w1 rd wr z jj lt) s.heap.size = A at hD ⊢
  have hA : ∀ q : Nat, s.heap.size ≤ q → A q := fun q h => by rw [← hAe]; exact Or.inr h
  clear hAe hD0
  have hS : va_S A s.heap s.heap [] := va_S.rf
  have hiX4 : ∀ w ∈ wsX40, w ∈ wsX4_close := fun w h9 => List.mem_cons_of_mem _ (List.mem_append_left _ (List.mem_append_right _ (h9)))
  have k48 := hts (.fieldLink RX4 48 "WovenHistory" "opened" "Z") (List.mem_of_getElem? (i := 1) rfl)
  have k10 := hts (.fieldLink RX4 10 "WovenHistory" "now" "LWovenHistory$Weave;") (List.mem_of_getElem? (i := 3) rfl)
  have hiX3 : ∀ w ∈ wsX30, w ∈ wsX4_close := fun w h9 => List.mem_cons_of_mem _ (List.mem_append_right _ (h9))
  have k82 : (Cond.fieldLinkNest "WovenHistory" 82 "WovenHistory$Weave" "versions" "I" "WovenHistory").before _ s = true := va_Nw.use (A := ([.ref (h 0)] : List Value).toArray) rfl (hN.1 ("WovenHistory", 82, "WovenHistory$Weave", "versions", "I") (List.mem_of_getElem? (i := 12) rfl))
  have hl := lv_entry ([.ref (h 0)]) (n := 1) (Nat.le_of_ble_eq_true rfl)
  rw [lg_entry_eq]
  generalize (lg_sl ([.ref (h 0)]) ++ List.replicate (1 - (lg_sl ([.ref (h 0)])).length) Slot.unset).toArray = ls at hl ⊢
  have hl : lv_has ls 1 [(0, .ref (h 0))] := hl
  have hC := hRX.1
  have hic := hIS.ic
  have hv24 := hIS.1
  have hl120 := hIS.2.1
  have ho1 := hIS.2.2.1
  refine lv_aload_n hx hb dX4_close_0 rfl (lv_at hl 0 rfl) ?_
  refine va_get (D := gD G) (ci := 4) (v := .int (x.1 7)) (C := RX4) (T := TX4) (N := 9) hx hb hts hiX4 hown hK hP 0 (xp_0 _ _ _ _ _ _ _ _ _ _ _ _) rfl 7 (by decide) k48 (fun _ h9 => h9) rfl dX4_close_1 ?_
  refine topE hRX.2.1 ?_
  refine lv_if_ne (tgt := 10) hx hb dX4_close_4 (by decide) (fun c4 => ?_) (fun c4 => ?_)
  · skip
    have n4 : ¬ ((sg.1 8) = 0) := fun q9 => c4 ((nI_eq (a := sg.1 8) (b := 0) (by omega) (by omega)).mpr q9)
    have h81 : sg.1 8 = 1 := by omega
    have hC1 : CW wn sg (sg.1 0 + 1) := by rw [h81] at hC; exact hC
    have hv23 : sg.1 0 < 24 := hIS.2.2.2.1 h81
    refine lv_aload_n hx hb dX4_close_10 rfl (lv_at hl 0 rfl) ?_
    refine va_get (D := gD G) (ci := 4) (v := .ref (h 10)) (C := RX4) (T := TX4) (N := 9) hx hb hts hiX4 hown hK hP 0 (xp_0 _ _ _ _ _ _ _ _ _ _ _ _) rfl 0 (by decide) k10 (fun _ h9 => h9) rfl dX4_close_11 ?_
    refine cWv (As := []) (rest := []) (S := oS) (wa := xw G h x wn wa w0 w1 rd wr z jj lt) (wc := wv G (fun k => h (10 + k)) wn) (w1 := fun v => wv G (fun k => h (10 + k)) v) (wa' := fun v => xw G h x v wa w0 w1 rd wr z jj lt) ⟨hx, hb, hml, hown, hts⟩ (mt_X3_finishVersionF l G (fun k => h (10 + k)) _ wn (sg.1 0) (hC.1) (hv23)) (cwV 0 hts gX4_close_X3_finishVersion rfl rfl rfl ⟨rfl, hd_X3_finishVersion⟩ ⟨Nat.le_of_ble_eq_true rfl, Nat.le_of_ble_eq_true rfl⟩) hK hN hP hD hS hA [3, 4, 5, 6, 7, 8, 9, 10] (xc_now _ _ _ _ _ _ _ _ _ _ _ _) (by decide) (xf_now _ _ _ _ _ _ _ _ _ _ _ _) (fun _ => rfl) (fun v => xo_now _ _ _ _ _ _ _ _ _ _ _ _ v) (fun v => xm_now _ _ _ _ _ _ _ _ _ _ _ _ v) 0 3 rfl rfl rfl hl.1 rfl (Nat.le_of_ble_eq_true rfl) ⟨Nat.zero_le _, Nat.zero_le _⟩ dX4_close_14 (fun u14 H locs hw14 hP hD hS => ?_)
    obtain rfl := hw14
    have hP : PP G (xw G h x (oI wn 0 (nI ((sg.1 0) + 1))) wa w0 w1 rd wr z jj lt) H := hP
    have hD : va_D A (xw G h x (oI wn 0 (nI ((sg.1 0) + 1))) wa w0 w1 rd wr z jj lt) := hD
    refine lv_aload_n hx hb dX4_close_17 rfl (lv_at hl 0 rfl) ?_
    refine lv_iconst (v := nI 0) hx hb dX4_close_18 (by decide) ?_
    refine va_put (D := gD G) (ci := 4) (v := .int (nI 0)) (ty := .boolean) (C := RX4) (T := TX4) (N := 9) hx hb hts hiX4 tyX4 tyX4_ok nmX4 hown hK hP hD hS 0 (xp_0 _ _ _ _ _ _ _ _ _ _ _ _) rfl 7 (by decide) k48 (fun _ h9 => h9) rfl (tyX4_ok 7 (by decide)) (rfl) (rfl) (Nat.le_of_ble_eq_true rfl) dX4_close_19 (fun H locs hP hD hS => ?_)
    have hP : PP G (xw G h (oI x 7 (nI 0)) (oI wn 0 (nI ((sg.1 0) + 1))) wa w0 w1 rd wr z jj lt) H := hP
    have hD : va_D A (xw G h (oI x 7 (nI 0)) (oI wn 0 (nI ((sg.1 0) + 1))) wa w0 w1 rd wr z jj lt) := hD
    refine lv_aload_n hx hb dX4_close_22 rfl (lv_at hl 0 rfl) ?_
    refine va_get (D := gD G) (ci := 4) (v := .ref (h 10)) (C := RX4) (T := TX4) (N := 9) hx hb hts hiX4 hown hK hP 0 (xp_0 _ _ _ _ _ _ _ _ _ _ _ _) rfl 0 (by decide) k10 (fun _ h9 => h9) rfl dX4_close_23 ?_
    refine va_getN (D := gD G) (ci := 3) (v := .int (nI ((sg.1 0) + 1))) (C := RX3) (T := TX3) (N := 9) hx hb hts hiX3 hown hK hP 3 (xp_3 _ _ _ _ _ _ _ _ _ _ _ _) rfl 0 (by decide) k82 (fun _ h9 => h9) rfl dX4_close_26 ?_
    refine lv_iconst (v := nI 1) hx hb dX4_close_29 (by decide) ?_
    refine lv_isub hx hb dX4_close_30 ?_
    refine topE (y := nI (((sg.1 0) + 1) - 1)) (pk_sub (by omega)) ?_
    exact W.iret (v := nI (((sg.1 0) + 1) - 1)) hx hb hr (fun t ht hW => ⟨⟨nI (((sg.1 0) + 1) - 1), (oI x 7 (nI 0), oI wn 0 (nI ((sg.1 0) + 1)), wa, w0, w1, rd, wr, z, jj, lt), rfl, ⟨by rw [clsF, if_neg n4]; exact RepX_cls hRX h81, by rw [clsA, if_neg n4]; rfl⟩, show PP G (xw G h (oI x 7 (nI 0)) (oI wn 0 (nI ((sg.1 0) + 1))) wa w0 w1 rd wr z jj lt) t.heap by rw [ht]; exact hP⟩, hS.F ht⟩) hS.2.2 dX4_close_31
  · skip
    have n4 : (sg.1 8) = 0 := (nI_eq (a := sg.1 8) (b := 0) (by omega) (by omega)).mp c4
    refine lv_ldc (v := (-1000000003 : Int32)) hx hb hown (hts (.constant RX4 148 (-1000000003)) (List.mem_of_getElem? (i := 2) rfl)) dX4_close_7 ?_
    exact W.iret (v := (-1000000003 : Int32)) hx hb hr (fun t ht hW => ⟨⟨(-1000000003 : Int32), (x, wn, wa, w0, w1, rd, wr, z, jj, lt), rfl, ⟨by rw [clsF, if_pos n4]; exact hRX, by rw [clsA, if_pos n4]⟩, show PP G (xw G h x wn wa w0 w1 rd wr z jj lt) t.heap by rw [ht]; exact hP⟩, hS.F ht⟩) hS.2.2 dX4_close_9
set_option maxHeartbeats 1000000 in
set_option maxRecDepth 100000 in
theorem mt_X4_leaveS (l : Launch) (G : gG) (h : Nat → Nat) (sz : Nat) (x : oS) (wn : oS) (wa : oS) (w0 : oS) (w1 : oS) (rd : oS) (wr : oS) (z : oS) (jj : Nat → Nat → Int64) (lt : Int64) (sg : pS) (zz : Nat → Nat → Int64) (hIS : IS sg) (hRX : RepX x wn wa w0 w1 rd z jj sg zz) : Met l yX4_leave wsX4_leave ({ frames := 4, cells := 0, slots := 0, locals := 87 }) (preW G (xw G h x wn wa w0 w1 rd wr z jj lt) sz [.ref (h 0)]) (va_Qi (fun (r : Int32) (v : oS × oS × oS × oS × oS × oS × oS × oS × (Nat → Nat → Int64) × Int64) => RpX v (leaF sg) (zz) ∧ r = leaA sg) (fun v t => PP G (xw G h v.1 v.2.1 v.2.2.1 v.2.2.2.1 v.2.2.2.2.1 v.2.2.2.2.2.1 v.2.2.2.2.2.2.1 v.2.2.2.2.2.2.2.1 v.2.2.2.2.2.2.2.2.1 v.2.2.2.2.2.2.2.2.2) t.heap) (va_A (xw G h x wn wa w0 w1 rd wr z jj lt) sz)) 0 0 (va_A (xw G h x wn wa w0 w1 rd wr z jj lt) sz) := by
  refine Met.ofW (cc := cX4_leave) (maxL := 2) (ret := (some .int)) (by decide) rfl ?_
  intro p e s m args below meth c s₁ B hml hv
  obtain ⟨ha, hsz, hP, hK, hN, hD0⟩ := hv
  subst ha
  have hx := B.exec
  have hb := B.bytes
  have hr := B.returns
  have hts := atoms_spec (ws := wsX4_leave) B.pre
  have hown : s.vm.findClass RX4 = some m.cls := findClass_of_methodNamed B.named
  have hlocks := B.notSynchronized
  subst hsz
  have hD := hD0.self (sz := s.heap.size)
  generalize hAe : va_A (xw G h x wn wa w0 w1 rd wr z jj lt) s.heap.size = A at hD ⊢
  have hA : ∀ q : Nat, s.heap.size ≤ q → A q := fun q h => by rw [← hAe]; exact Or.inr h
  clear hAe hD0
  have hS : va_S A s.heap s.heap [] := va_S.rf
  have hiX4 : ∀ w ∈ wsX40, w ∈ wsX4_leave := fun w h9 => List.mem_cons_of_mem _ (List.mem_append_left _ (List.mem_append_right _ (h9)))
  have k48 := hts (.fieldLink RX4 48 "WovenHistory" "opened" "Z") (List.mem_of_getElem? (i := 1) rfl)
  have k10 := hts (.fieldLink RX4 10 "WovenHistory" "now" "LWovenHistory$Weave;") (List.mem_of_getElem? (i := 3) rfl)
  have k16 := hts (.fieldLink RX4 16 "WovenHistory" "aheadOfOpen" "LWovenHistory$Weave;") (List.mem_of_getElem? (i := 4) rfl)
  have hl := lv_entry ([.ref (h 0)]) (n := 2) (Nat.le_of_ble_eq_true rfl)
  rw [lg_entry_eq]
  generalize (lg_sl ([.ref (h 0)]) ++ List.replicate (2 - (lg_sl ([.ref (h 0)])).length) Slot.unset).toArray = ls at hl ⊢
  have hl : lv_has ls 2 [(0, .ref (h 0))] := hl
  have hC := hRX.1
  have hic := hIS.ic
  have hv24 := hIS.1
  have hl120 := hIS.2.1
  have ho1 := hIS.2.2.1
  refine lv_aload_n hx hb dX4_leave_0 rfl (lv_at hl 0 rfl) ?_
  refine va_get (D := gD G) (ci := 4) (v := .int (x.1 7)) (C := RX4) (T := TX4) (N := 9) hx hb hts hiX4 hown hK hP 0 (xp_0 _ _ _ _ _ _ _ _ _ _ _ _) rfl 7 (by decide) k48 (fun _ h9 => h9) rfl dX4_leave_1 ?_
  refine topE hRX.2.1 ?_
  refine lv_if_ne (tgt := 10) hx hb dX4_leave_4 (by decide) (fun c4 => ?_) (fun c4 => ?_)
  · skip
    have n4 : ¬ ((sg.1 8) = 0) := fun q9 => c4 ((nI_eq (a := sg.1 8) (b := 0) (by omega) (by omega)).mpr q9)
    have h81 : sg.1 8 = 1 := by omega
    have hC1 : CW wn sg (sg.1 0 + 1) := by rw [h81] at hC; exact hC
    have hv23 : sg.1 0 < 24 := hIS.2.2.2.1 h81
    refine lv_aload_n hx hb dX4_leave_10 rfl (lv_at hl 0 rfl) ?_
    refine cRi (w := xw G h x wn wa w0 w1 rd wr z jj lt) (As := []) (rest := []) ⟨hx, hb, hml, hown, hts⟩ (mt_X4_openLinesF l G h x wn wa w0 w1 rd wr z jj lt sg (hC1) (hv23) (hl120)) (cwV 0 hts gX4_leave_X4_openLines rfl rfl rfl ⟨rfl, hd_X4_openLines⟩ ⟨Nat.le_of_ble_eq_true rfl, Nat.le_of_ble_eq_true rfl⟩) hK hN hP 0 4 rfl rfl rfl hl.1 rfl (Nat.le_of_ble_eq_true rfl) ⟨Nat.zero_le _, Nat.zero_le _⟩ dX4_leave_11 (fun r11 hw11 => ?_)
    obtain rfl := hw11
    have hc11 : olS sg ≤ sg.1 4 := cnt_le _ _
    refine lv_istore_n (lv' := [(1, .int (nI (olS sg))), (0, .ref (h 0))]) hx hb dX4_leave_14 rfl hl (by decide) rfl (fun ls hl => ?_)
    refine lv_aload_n hx hb dX4_leave_15 rfl (lv_at hl 1 rfl) ?_
    refine va_get (D := gD G) (ci := 4) (v := .ref (h 10)) (C := RX4) (T := TX4) (N := 9) hx hb hts hiX4 hown hK hP 0 (xp_0 _ _ _ _ _ _ _ _ _ _ _ _) rfl 0 (by decide) k10 (fun _ h9 => h9) rfl dX4_leave_16 ?_
    refine lv_aload_n hx hb dX4_leave_19 rfl (lv_at hl 1 rfl) ?_
    refine va_get (D := gD G) (ci := 4) (v := .ref (h 20)) (C := RX4) (T := TX4) (N := 9) hx hb hts hiX4 hown hK hP 0 (xp_0 _ _ _ _ _ _ _ _ _ _ _ _) rfl 1 (by decide) k16 (fun _ h9 => h9) rfl dX4_leave_20 ?_
    refine cWv (As := [.ref (h 20)]) (rest := []) (S := oS × oS) (wa := xw G h x wn wa w0 w1 rd wr z jj lt) (wc := wb G (fun k => h (10 + k)) (fun k => h (20 + k)) wn wa) (w1 := fun v => wb G (fun k => h (10 + k)) (fun k => h (20 + k)) v.1 v.2) (wa' := fun v => xw G h x v.1 v.2 w0 w1 rd wr z jj lt) ⟨hx, hb, hml, hown, hts⟩ (mt_X3_becomeF l G (fun k => h (10 + k)) _ wn wa (fun k => h (20 + k))) (cwV 1 hts gX4_leave_X3_become rfl rfl rfl ⟨rfl, hd_X3_become⟩ ⟨Nat.le_of_ble_eq_true rfl, Nat.le_of_ble_eq_true rfl⟩) hK hN hP hD hS hA [3, 4, 5, 6, 7, 8, 9, 10, 11, 12, 13, 14, 15, 16, 17, 18] (yc_now_ahead _ _ _ _ _ _ _ _ _ _ _ _) (by decide) (yf_now_ahead _ _ _ _ _ _ _ _ _ _ _ _) (fun _ => rfl) (fun v => yo_now_ahead _ _ _ _ _ _ _ _ _ _ _ _ v) (fun v => ym_now_ahead _ _ _ _ _ _ _ _ _ _ _ _ v) 0 3 rfl rfl rfl hl.1 rfl (Nat.le_of_ble_eq_true rfl) ⟨Nat.zero_le _, Nat.zero_le _⟩ dX4_leave_23 (fun u23 H locs hw23 hP hD hS => ?_)
    obtain ⟨w23, rfl, hcp23⟩ := hw23
    have hP : PP G (xw G h x w23 wa w0 w1 rd wr z jj lt) H := hP
    have hD : va_D A (xw G h x w23 wa w0 w1 rd wr z jj lt) := hD
    refine lv_aload_n hx hb dX4_leave_26 rfl (lv_at hl 1 rfl) ?_
    refine lv_iconst (v := nI 0) hx hb dX4_leave_27 (by decide) ?_
    refine va_put (D := gD G) (ci := 4) (v := .int (nI 0)) (ty := .boolean) (C := RX4) (T := TX4) (N := 9) hx hb hts hiX4 tyX4 tyX4_ok nmX4 hown hK hP hD hS 0 (xp_0 _ _ _ _ _ _ _ _ _ _ _ _) rfl 7 (by decide) k48 (fun _ h9 => h9) rfl (tyX4_ok 7 (by decide)) (rfl) (rfl) (Nat.le_of_ble_eq_true rfl) dX4_leave_28 (fun H locs hP hD hS => ?_)
    have hP : PP G (xw G h (oI x 7 (nI 0)) w23 wa w0 w1 rd wr z jj lt) H := hP
    have hD : va_D A (xw G h (oI x 7 (nI 0)) w23 wa w0 w1 rd wr z jj lt) := hD
    refine lv_iload_n hx hb dX4_leave_31 rfl (lv_at hl 0 rfl) ?_
    exact W.iret (v := nI (olS sg)) hx hb hr (fun t ht hW => ⟨⟨nI (olS sg), (oI x 7 (nI 0), w23, wa, w0, w1, rd, wr, z, jj, lt), rfl, ⟨by rw [leaF, if_neg n4]; exact RepX_lea hRX hIS h81 hcp23, by rw [leaA, if_neg n4]⟩, show PP G (xw G h (oI x 7 (nI 0)) w23 wa w0 w1 rd wr z jj lt) t.heap by rw [ht]; exact hP⟩, hS.F ht⟩) hS.2.2 dX4_leave_32
  · skip
    have n4 : (sg.1 8) = 0 := (nI_eq (a := sg.1 8) (b := 0) (by omega) (by omega)).mp c4
    refine lv_ldc (v := (-1000000003 : Int32)) hx hb hown (hts (.constant RX4 148 (-1000000003)) (List.mem_of_getElem? (i := 2) rfl)) dX4_leave_7 ?_
    exact W.iret (v := (-1000000003 : Int32)) hx hb hr (fun t ht hW => ⟨⟨(-1000000003 : Int32), (x, wn, wa, w0, w1, rd, wr, z, jj, lt), rfl, ⟨by rw [leaF, if_pos n4]; exact hRX, by rw [leaA, if_pos n4]⟩, show PP G (xw G h x wn wa w0 w1 rd wr z jj lt) t.heap by rw [ht]; exact hP⟩, hS.F ht⟩) hS.2.2 dX4_leave_9
set_option maxHeartbeats 1000000 in
set_option maxRecDepth 100000 in
theorem mt_X0_startF (l : Launch) (G : gG) (h : Nat → Nat) (sz : Nat) (lt : Int64) (bs : Nat) (hbs : bs < 2147483648) : Met l yX0_start wsX0_start ({ frames := 0, cells := 0, slots := 0, locals := 0 }) (preW G (tv G h lt) sz [.ref (h 0), .int (nI bs)]) (va_Qv (fun (v : Int64) => v = lN bs) (fun v t => PP G (tv G h v) t.heap) (va_A (tv G h lt) sz)) 0 0 (va_A (tv G h lt) sz) := by
  refine Met.ofW (cc := cX0_start) (maxL := 2) (ret := none) (by decide) rfl ?_
  intro p e s m args below meth c s₁ B hml hv
  obtain ⟨ha, hsz, hP, hK, hN, hD0⟩ := hv
  subst ha
  have hx := B.exec
  have hb := B.bytes
  have hr := B.returns
  have hts := atoms_spec (ws := wsX0_start) B.pre
  have hown : s.vm.findClass RX0 = some m.cls := findClass_of_methodNamed B.named
  have hlocks := B.notSynchronized
  subst hsz
  have hD := hD0.self (sz := s.heap.size)
  generalize hAe : va_A (tv G h lt) s.heap.size = A at hD ⊢
  have hA : ∀ q : Nat, s.heap.size ≤ q → A q := fun q h => by rw [← hAe]; exact Or.inr h
  clear hAe hD0
  have hS : va_S A s.heap s.heap [] := va_S.rf
  have hiX0 : ∀ w ∈ wsX00, w ∈ wsX0_start := fun w h9 => List.mem_cons_of_mem _ (List.mem_append_right _ (h9))
  have k7 := hts (.fieldLink RX0 7 "WovenHistory$Lots" "x" "J") (List.mem_of_getElem? (i := 1) rfl)
  have hl := lv_entry ([.ref (h 0), .int (nI bs)]) (n := 2) (Nat.le_of_ble_eq_true rfl)
  rw [lg_entry_eq]
  generalize (lg_sl ([.ref (h 0), .int (nI bs)]) ++ List.replicate (2 - (lg_sl ([.ref (h 0), .int (nI bs)])).length) Slot.unset).toArray = ls at hl ⊢
  have hl : lv_has ls 2 [(0, .ref (h 0)), (1, .int (nI bs))] := hl
  refine lv_aload_n hx hb dX0_start_0 rfl (lv_at hl 0 rfl) ?_
  refine lv_iload_n hx hb dX0_start_1 rfl (lv_at hl 1 rfl) ?_
  refine lv_i2l (v := lN bs) hx hb dX0_start_2 (nI_l (by omega)) ?_
  refine va_put (D := gD G) (ci := 0) (v := .long (lN bs)) (ty := .long) (C := RX0) (T := TX0) (N := 1) hx hb hts hiX0 tyX0 tyX0_ok nmX0 hown hK hP hD hS 0 rfl rfl 0 (by decide) k7 (fun _ h9 => h9) rfl (tyX0_ok 0 (by decide)) (rfl) (rfl) (Nat.le_of_ble_eq_true rfl) dX0_start_3 (fun H locs hP hD hS => ?_)
  have hP : PP G (tv G h (lN bs)) H := hP
  have hD : va_D A (tv G h (lN bs)) := hD
  exact W.vret hx hb hr (fun t ht hW => ⟨⟨(lN bs), rfl, rfl, show PP G (tv G h (lN bs)) t.heap by rw [ht]; exact hP⟩, hS.F ht⟩) hS.2.2 dX0_start_6
set_option maxHeartbeats 1000000 in
set_option maxRecDepth 100000 in
theorem mt_X0_belowF (l : Launch) (G : gG) (h : Nat → Nat) (sz : Nat) (lt : Int64) (xb : Nat) (n0 : Nat) (hlt : lt = lN xb) (hxx : xb < 2147483647) (hn0 : 0 < n0) (hn1 : n0 < 2147483648) : Met l yX0_below wsX0_below ({ frames := 0, cells := 0, slots := 0, locals := 0 }) (preW G (tv G h lt) sz [.ref (h 0), .int (nI n0)]) (va_Qi (fun (r : Int32) (v : Int64) => v = lN (lot1 xb) ∧ r = nI (lot1 xb % n0)) (fun v t => PP G (tv G h v) t.heap) (va_A (tv G h lt) sz)) 0 0 (va_A (tv G h lt) sz) := by
  refine Met.ofW (cc := cX0_below) (maxL := 2) (ret := (some .int)) (by decide) rfl ?_
  intro p e s m args below meth c s₁ B hml hv
  obtain ⟨ha, hsz, hP, hK, hN, hD0⟩ := hv
  subst ha
  have hx := B.exec
  have hb := B.bytes
  have hr := B.returns
  have hts := atoms_spec (ws := wsX0_below) B.pre
  have hown : s.vm.findClass RX0 = some m.cls := findClass_of_methodNamed B.named
  have hlocks := B.notSynchronized
  subst hsz
  have hD := hD0.self (sz := s.heap.size)
  generalize hAe : va_A (tv G h lt) s.heap.size = A at hD ⊢
  have hA : ∀ q : Nat, s.heap.size ≤ q → A q := fun q h => by rw [← hAe]; exact Or.inr h
  clear hAe hD0
  have hS : va_S A s.heap s.heap [] := va_S.rf
  have hiX0 : ∀ w ∈ wsX00, w ∈ wsX0_below := fun w h9 => List.mem_cons_of_mem _ (List.mem_append_right _ (h9))
  have k7 := hts (.fieldLink RX0 7 "WovenHistory$Lots" "x" "J") (List.mem_of_getElem? (i := 1) rfl)
  have hl := lv_entry ([.ref (h 0), .int (nI n0)]) (n := 2) (Nat.le_of_ble_eq_true rfl)
  rw [lg_entry_eq]
  generalize (lg_sl ([.ref (h 0), .int (nI n0)]) ++ List.replicate (2 - (lg_sl ([.ref (h 0), .int (nI n0)])).length) Slot.unset).toArray = ls at hl ⊢
  have hl : lv_has ls 2 [(0, .ref (h 0)), (1, .int (nI n0))] := hl
  subst hlt
  refine lv_aload_n hx hb dX0_below_0 rfl (lv_at hl 0 rfl) ?_
  refine lv_aload_n hx hb dX0_below_1 rfl (lv_at hl 0 rfl) ?_
  refine va_get (D := gD G) (ci := 0) (v := .long (lN xb)) (C := RX0) (T := TX0) (N := 1) hx hb hts hiX0 hown hK hP 0 rfl rfl 0 (by decide) k7 (fun _ h9 => h9) rfl dX0_below_2 ?_
  refine lv_ldc2 (v := 16807) hx hb hown (hts (.constantLong RX0 13 (16807)) (List.mem_of_getElem? (i := 2) rfl)) dX0_below_5 ?_
  refine lv_lmul hx hb dX0_below_8 ?_
  refine topLE (y := lN (xb * 16807)) (lN_mul xb 16807) ?_
  refine lv_ldc2 (v := 2147483647) hx hb hown (hts (.constantLong RX0 15 (2147483647)) (List.mem_of_getElem? (i := 3) rfl)) dX0_below_9 ?_
  refine lv_lrem hx hb dX0_below_12 (by decide) ?_
  refine topLE (y := lN (xb * 16807 % 2147483647)) (pk_lRem (a := xb * 16807) (b := 2147483647) (by omega) (by omega) (by omega)) ?_
  refine va_put (D := gD G) (ci := 0) (v := .long (lN (xb * 16807 % 2147483647))) (ty := .long) (C := RX0) (T := TX0) (N := 1) hx hb hts hiX0 tyX0 tyX0_ok nmX0 hown hK hP hD hS 0 rfl rfl 0 (by decide) k7 (fun _ h9 => h9) rfl (tyX0_ok 0 (by decide)) (rfl) (rfl) (Nat.le_of_ble_eq_true rfl) dX0_below_13 (fun H locs hP hD hS => ?_)
  have hP : PP G (tv G h (lN (xb * 16807 % 2147483647))) H := hP
  have hD : va_D A (tv G h (lN (xb * 16807 % 2147483647))) := hD
  refine lv_iload_n hx hb dX0_below_16 rfl (lv_at hl 1 rfl) ?_
  refine lv_if_le (tgt := 31) hx hb dX0_below_17 (by decide) (fun c17 => ?_) (fun c17 => ?_)
  · skip
    have n17 : n0 ≤ 0 := (nI_leI (a := n0) (b := 0) (by omega) (by omega)).mp c17
    omega
  · skip
    have n17 : ¬ (n0 ≤ 0) := fun q9 => c17 ((nI_leI (a := n0) (b := 0) (by omega) (by omega)).mpr q9)
    refine lv_aload_n hx hb dX0_below_20 rfl (lv_at hl 0 rfl) ?_
    refine va_get (D := gD G) (ci := 0) (v := .long (lN (xb * 16807 % 2147483647))) (C := RX0) (T := TX0) (N := 1) hx hb hts hiX0 hown hK hP 0 rfl rfl 0 (by decide) k7 (fun _ h9 => h9) rfl dX0_below_21 ?_
    refine lv_iload_n hx hb dX0_below_24 rfl (lv_at hl 1 rfl) ?_
    refine lv_i2l (v := lN n0) hx hb dX0_below_25 (nI_l (by omega)) ?_
    refine lv_lrem hx hb dX0_below_26 (lN_ne0 hn0 hn1) ?_
    refine topLE (y := lN (xb * 16807 % 2147483647 % n0)) (pk_lRem (a := xb * 16807 % 2147483647) (b := n0) (by omega) (by omega) (by omega)) ?_
    refine lv_l2i (v := (lN (xb * 16807 % 2147483647 % n0)).toInt32) hx hb dX0_below_27 rfl ?_
    refine topE (lN_i _) ?_
    refine lv_goto (tgt := 32) hx hb dX0_below_28 (by decide) ?_
    exact W.iret (v := nI (xb * 16807 % 2147483647 % n0)) hx hb hr (fun t ht hW => ⟨⟨nI (xb * 16807 % 2147483647 % n0), (lN (xb * 16807 % 2147483647)), rfl, ⟨rfl, rfl⟩, show PP G (tv G h (lN (xb * 16807 % 2147483647))) t.heap by rw [ht]; exact hP⟩, hS.F ht⟩) hS.2.2 dX0_below_32
set_option maxHeartbeats 1000000 in
set_option maxRecDepth 100000 in
theorem mt_X4_driftOneLineF (l : Launch) (G : gG) (h : Nat → Nat) (sz : Nat) (x : oS) (wn : oS) (wa : oS) (w0 : oS) (w1 : oS) (rd : oS) (wr : oS) (z : oS) (jj : Nat → Nat → Int64) (lt : Int64) (sg : pS) (xl : Nat) (hIS : IS sg) (ho8 : sg.1 8 = 1) (hCW : CW wn sg (sg.1 0 + 1)) (hlt : lt = lN xl) (hxx : xl < 2147483647) : Met l yX4_driftOneLine wsX4_driftOneLine ({ frames := 4, cells := 0, slots := 0, locals := 96 }) (preW G (xw G h x wn wa w0 w1 rd wr z jj lt) sz [.ref (h 0)]) (va_Qi (fun (r : Int32) (v : oS × oS × oS × oS × oS × oS × oS × oS × (Nat → Nat → Int64) × Int64) => ∃ w t, v = (x, w, wa, w0, w1, rd, wr, z, jj, lN t.2.1) ∧ t = sLine sg xl ∧ CW w t.1 (t.1.1 0 + 1) ∧ r = (if t.2.2 = true then 1 else 0)) (fun v t => PP G (xw G h v.1 v.2.1 v.2.2.1 v.2.2.2.1 v.2.2.2.2.1 v.2.2.2.2.2.1 v.2.2.2.2.2.2.1 v.2.2.2.2.2.2.2.1 v.2.2.2.2.2.2.2.2.1 v.2.2.2.2.2.2.2.2.2) t.heap) (va_A (xw G h x wn wa w0 w1 rd wr z jj lt) sz)) 0 0 (va_A (xw G h x wn wa w0 w1 rd wr z jj lt) sz) := by
  refine Met.ofW (cc := cX4_driftOneLine) (maxL := 4) (ret := (some .boolean)) (by decide) rfl ?_
  intro p e s m args below meth c s₁ B hml hv
  obtain ⟨ha, hsz, hP, hK, hN, hD0⟩ := hv
  subst ha
  have hx := B.exec
  have hb := B.bytes
  have hr := B.returns
  have hts := atoms_spec (ws := wsX4_driftOneLine) B.pre
  have hown : s.vm.findClass RX4 = some m.cls := findClass_of_methodNamed B.named
  have hlocks := B.notSynchronized
  subst hsz
  have hD := hD0.self (sz := s.heap.size)
  generalize hAe : va_A (xw G h x wn wa w0 w1 rd wr z jj lt) s.heap.size = A at hD ⊢
  have hA : ∀ q : Nat, s.heap.size ≤ q → A q := fun q h => by rw [← hAe]; exact Or.inr h
  clear hAe hD0
  have hS : va_S A s.heap s.heap [] := va_S.rf
  have hiX4 : ∀ w ∈ wsX40, w ∈ wsX4_driftOneLine := fun w h9 => List.mem_cons_of_mem _ (List.mem_append_left _ (List.mem_append_left _ (List.mem_append_right _ (h9))))
  have k44 := hts (.fieldLink RX4 44 "WovenHistory" "lots" "LWovenHistory$Lots;") (List.mem_of_getElem? (i := 1) rfl)
  have k10 := hts (.fieldLink RX4 10 "WovenHistory" "now" "LWovenHistory$Weave;") (List.mem_of_getElem? (i := 2) rfl)
  have hiX3 : ∀ w ∈ wsX30, w ∈ wsX4_driftOneLine := fun w h9 => List.mem_cons_of_mem _ (List.mem_append_left _ (List.mem_append_right _ (h9)))
  have k85 : (Cond.fieldLinkNest "WovenHistory" 85 "WovenHistory$Weave" "lines" "I" "WovenHistory").before _ s = true := va_Nw.use (A := ([.ref (h 0)] : List Value).toArray) rfl (hN.1 ("WovenHistory", 85, "WovenHistory$Weave", "lines", "I") (List.mem_of_getElem? (i := 13) rfl))
  have hl := lv_entry ([.ref (h 0)]) (n := 4) (Nat.le_of_ble_eq_true rfl)
  rw [lg_entry_eq]
  generalize (lg_sl ([.ref (h 0)]) ++ List.replicate (4 - (lg_sl ([.ref (h 0)])).length) Slot.unset).toArray = ls at hl ⊢
  have hl : lv_has ls 4 [(0, .ref (h 0))] := hl
  subst hlt
  have hv23 : sg.1 0 < 24 := hIS.2.2.2.1 ho8
  have hl120 := hIS.2.1
  refine lv_aload_n hx hb dX4_driftOneLine_0 rfl (lv_at hl 0 rfl) ?_
  refine va_get (D := gD G) (ci := 4) (v := .ref (h 80)) (C := RX4) (T := TX4) (N := 9) hx hb hts hiX4 hown hK hP 0 (xp_0 _ _ _ _ _ _ _ _ _ _ _ _) rfl 6 (by decide) k44 (fun _ h9 => h9) rfl dX4_driftOneLine_1 ?_
  refine lv_iconst (v := nI 3) hx hb dX4_driftOneLine_4 (by decide) ?_
  refine cWi (As := [.int (nI 3)]) (rest := []) (S := Int64) (wa := xw G h x wn wa w0 w1 rd wr z jj (lN xl)) (wc := tv G (fun k => h (80 + k)) (lN xl)) (w1 := fun v => tv G (fun k => h (80 + k)) v) (wa' := fun v => xw G h x wn wa w0 w1 rd wr z jj v) ⟨hx, hb, hml, hown, hts⟩ (mt_X0_belowF l G (fun k => h (80 + k)) _ (lN xl) xl 3 (rfl) (hxx) (by first | assumption | omega) (by first | assumption | omega)) (cwV 1 hts gX4_driftOneLine_X0_below rfl rfl rfl ⟨rfl, hd_X0_below⟩ ⟨Nat.le_of_ble_eq_true rfl, Nat.le_of_ble_eq_true rfl⟩) hK hN hP hD hS hA [54] (xc_t _ _ _ _ _ _ _ _ _ _ _ _) (by decide) (xf_t _ _ _ _ _ _ _ _ _ _ _ _) (fun _ => rfl) (fun v => xo_t _ _ _ _ _ _ _ _ _ _ _ _ v) (fun v => xm_t _ _ _ _ _ _ _ _ _ _ _ _ v) 0 0 rfl rfl rfl hl.1 rfl (Nat.le_of_ble_eq_true rfl) ⟨Nat.zero_le _, Nat.zero_le _⟩ dX4_driftOneLine_5 (fun r5 u5 H locs hw5 hP hD hS => ?_)
  obtain ⟨rfl, rfl⟩ := hw5
  have hP : PP G (xw G h x wn wa w0 w1 rd wr z jj (lN (lot1 xl))) H := hP
  have hD : va_D A (xw G h x wn wa w0 w1 rd wr z jj (lN (lot1 xl))) := hD
  have hl5 : lot1 xl < 2147483647 := Nat.mod_lt _ (by omega)
  have hm5 : lot1 xl % 3 < 3 := Nat.mod_lt _ (by omega)
  refine lv_iconst (v := nI 2) hx hb dX4_driftOneLine_8 (by decide) ?_
  refine lv_icmp_ne (tgt := 16) hx hb dX4_driftOneLine_9 (by decide) (fun c9 => ?_) (fun c9 => ?_)
  · skip
    have n9 : ¬ ((lot1 xl % 3) = 2) := fun q9 => c9 ((nI_eq (a := lot1 xl % 3) (b := 2) (by omega) (by omega)).mpr q9)
    refine lv_iconst (v := nI 0) hx hb dX4_driftOneLine_16 (by decide) ?_
    refine lv_istore_n (lv' := [(1, .int (nI 0)), (0, .ref (h 0))]) hx hb dX4_driftOneLine_17 rfl hl (by decide) rfl (fun ls hl => ?_)
    refine lv_aload_n hx hb dX4_driftOneLine_18 rfl (lv_at hl 1 rfl) ?_
    refine cRi (w := xw G h x wn wa w0 w1 rd wr z jj (lN (lot1 xl))) (As := []) (rest := []) ⟨hx, hb, hml, hown, hts⟩ (mt_X4_openLinesF l G h x wn wa w0 w1 rd wr z jj (lN (lot1 xl)) sg (hCW) (hv23) (hl120)) (cwV 0 hts gX4_driftOneLine_X4_openLines rfl rfl rfl ⟨rfl, hd_X4_openLines⟩ ⟨Nat.le_of_ble_eq_true rfl, Nat.le_of_ble_eq_true rfl⟩) hK hN hP 0 4 rfl rfl rfl hl.1 rfl (Nat.le_of_ble_eq_true rfl) ⟨Nat.zero_le _, Nat.zero_le _⟩ dX4_driftOneLine_19 (fun r19 hw19 => ?_)
    obtain rfl := hw19
    have hc19 : olS sg ≤ sg.1 4 := cnt_le _ _
    refine lv_istore_n (lv' := [(2, .int (nI (olS sg))), (1, .int (nI 0)), (0, .ref (h 0))]) hx hb dX4_driftOneLine_22 rfl hl (by decide) rfl (fun ls hl => ?_)
    refine lv_iload_n hx hb dX4_driftOneLine_23 rfl (lv_at hl 1 rfl) ?_
    refine lv_if_eq (tgt := 49) hx hb dX4_driftOneLine_24 (by decide) (fun _ => ?_) (fun c9 => absurd (by decide) c9)
    refine lv_aload_n hx hb dX4_driftOneLine_49 rfl (lv_at hl 2 rfl) ?_
    refine va_get (D := gD G) (ci := 4) (v := .ref (h 10)) (C := RX4) (T := TX4) (N := 9) hx hb hts hiX4 hown hK hP 0 (xp_0 _ _ _ _ _ _ _ _ _ _ _ _) rfl 0 (by decide) k10 (fun _ h9 => h9) rfl dX4_driftOneLine_50 ?_
    refine va_getN (D := gD G) (ci := 3) (v := .int (wn.1 5)) (C := RX3) (T := TX3) (N := 9) hx hb hts hiX3 hown hK hP 3 (xp_3 _ _ _ _ _ _ _ _ _ _ _ _) rfl 5 (by decide) k85 (fun _ h9 => h9) rfl dX4_driftOneLine_53 ?_
    refine topE hCW.2.1 ?_
    refine lv_bipush (v := nI 120) hx hb dX4_driftOneLine_56 (by decide) ?_
    refine lv_icmp_lt (tgt := 63) hx hb dX4_driftOneLine_58 (by decide) (fun c58 => ?_) (fun c58 => ?_)
    · skip
      have n58 : (sg.1 4) < 120 := (nI_ltI (a := sg.1 4) (b := 120) (by omega) (by omega)).mp c58
      refine lv_bipush (v := nI 65) hx hb dX4_driftOneLine_63 (by decide) ?_
      refine lv_aload_n hx hb dX4_driftOneLine_65 rfl (lv_at hl 2 rfl) ?_
      refine va_get (D := gD G) (ci := 4) (v := .ref (h 80)) (C := RX4) (T := TX4) (N := 9) hx hb hts hiX4 hown hK hP 0 (xp_0 _ _ _ _ _ _ _ _ _ _ _ _) rfl 6 (by decide) k44 (fun _ h9 => h9) rfl dX4_driftOneLine_66 ?_
      refine lv_bipush (v := nI 26) hx hb dX4_driftOneLine_69 (by decide) ?_
      refine cWi (As := [.int (nI 26)]) (rest := [.int (nI 65)]) (S := Int64) (wa := xw G h x wn wa w0 w1 rd wr z jj (lN (lot1 xl))) (wc := tv G (fun k => h (80 + k)) (lN (lot1 xl))) (w1 := fun v => tv G (fun k => h (80 + k)) v) (wa' := fun v => xw G h x wn wa w0 w1 rd wr z jj v) ⟨hx, hb, hml, hown, hts⟩ (mt_X0_belowF l G (fun k => h (80 + k)) _ (lN (lot1 xl)) (lot1 xl) 26 (rfl) (lot1_lt _) (by first | assumption | omega) (by first | assumption | omega)) (cwV 1 hts gX4_driftOneLine_X0_below rfl rfl rfl ⟨rfl, hd_X0_below⟩ ⟨Nat.le_of_ble_eq_true rfl, Nat.le_of_ble_eq_true rfl⟩) hK hN hP hD hS hA [54] (xc_t _ _ _ _ _ _ _ _ _ _ _ _) (by decide) (xf_t _ _ _ _ _ _ _ _ _ _ _ _) (fun _ => rfl) (fun v => xo_t _ _ _ _ _ _ _ _ _ _ _ _ v) (fun v => xm_t _ _ _ _ _ _ _ _ _ _ _ _ v) 0 0 rfl rfl rfl hl.1 rfl (Nat.le_of_ble_eq_true rfl) ⟨Nat.zero_le _, Nat.zero_le _⟩ dX4_driftOneLine_71 (fun r71 u71 H locs hw71 hP hD hS => ?_)
      obtain ⟨rfl, rfl⟩ := hw71
      have hP : PP G (xw G h x wn wa w0 w1 rd wr z jj (lN (lot1 (lot1 xl)))) H := hP
      have hD : va_D A (xw G h x wn wa w0 w1 rd wr z jj (lN (lot1 (lot1 xl)))) := hD
      have hl71 : lot1 (lot1 xl) < 2147483647 := Nat.mod_lt _ (by omega)
      have hm71 : lot1 (lot1 xl) % 26 < 26 := Nat.mod_lt _ (by omega)
      refine lv_iadd hx hb dX4_driftOneLine_74 ?_
      refine topE (y := nI (65 + (lot1 (lot1 xl) % 26))) (nI_add 65 (lot1 (lot1 xl) % 26)) ?_
      refine lv_istore_n (lv' := [(3, .int (nI (65 + (lot1 (lot1 xl) % 26)))), (2, .int (nI (olS sg))), (1, .int (nI 0)), (0, .ref (h 0))]) hx hb dX4_driftOneLine_75 rfl hl (by decide) rfl (fun ls hl => ?_)
      refine lv_aload_n hx hb dX4_driftOneLine_76 rfl (lv_at hl 3 rfl) ?_
      refine va_get (D := gD G) (ci := 4) (v := .ref (h 10)) (C := RX4) (T := TX4) (N := 9) hx hb hts hiX4 hown hK hP 0 (xp_0 _ _ _ _ _ _ _ _ _ _ _ _) rfl 0 (by decide) k10 (fun _ h9 => h9) rfl dX4_driftOneLine_77 ?_
      refine lv_aload_n hx hb dX4_driftOneLine_80 rfl (lv_at hl 3 rfl) ?_
      refine va_get (D := gD G) (ci := 4) (v := .ref (h 80)) (C := RX4) (T := TX4) (N := 9) hx hb hts hiX4 hown hK hP 0 (xp_0 _ _ _ _ _ _ _ _ _ _ _ _) rfl 6 (by decide) k44 (fun _ h9 => h9) rfl dX4_driftOneLine_81 ?_
      refine lv_iload_n hx hb dX4_driftOneLine_84 rfl (lv_at hl 1 rfl) ?_
      refine lv_iconst (v := nI 1) hx hb dX4_driftOneLine_85 (by decide) ?_
      refine lv_iadd hx hb dX4_driftOneLine_86 ?_
      refine topE (y := nI ((olS sg) + 1)) (nI_add (olS sg) 1) ?_
      refine cWi (As := [.int (nI ((olS sg) + 1))]) (rest := [.ref (h 10)]) (S := Int64) (wa := xw G h x wn wa w0 w1 rd wr z jj (lN (lot1 (lot1 xl)))) (wc := tv G (fun k => h (80 + k)) (lN (lot1 (lot1 xl)))) (w1 := fun v => tv G (fun k => h (80 + k)) v) (wa' := fun v => xw G h x wn wa w0 w1 rd wr z jj v) ⟨hx, hb, hml, hown, hts⟩ (mt_X0_belowF l G (fun k => h (80 + k)) _ (lN (lot1 (lot1 xl))) (lot1 (lot1 xl)) ((olS sg) + 1) (rfl) (lot1_lt _) (by first | assumption | omega) (by first | assumption | omega)) (cwV 1 hts gX4_driftOneLine_X0_below rfl rfl rfl ⟨rfl, hd_X0_below⟩ ⟨Nat.le_of_ble_eq_true rfl, Nat.le_of_ble_eq_true rfl⟩) hK hN hP hD hS hA [54] (xc_t _ _ _ _ _ _ _ _ _ _ _ _) (by decide) (xf_t _ _ _ _ _ _ _ _ _ _ _ _) (fun _ => rfl) (fun v => xo_t _ _ _ _ _ _ _ _ _ _ _ _ v) (fun v => xm_t _ _ _ _ _ _ _ _ _ _ _ _ v) 0 0 rfl rfl rfl hl.1 rfl (Nat.le_of_ble_eq_true rfl) ⟨Nat.zero_le _, Nat.zero_le _⟩ dX4_driftOneLine_87 (fun r87 u87 H locs hw87 hP hD hS => ?_)
      obtain ⟨rfl, rfl⟩ := hw87
      have hP : PP G (xw G h x wn wa w0 w1 rd wr z jj (lN (lot1 (lot1 (lot1 xl))))) H := hP
      have hD : va_D A (xw G h x wn wa w0 w1 rd wr z jj (lN (lot1 (lot1 (lot1 xl))))) := hD
      have hl87 : lot1 (lot1 (lot1 xl)) < 2147483647 := Nat.mod_lt _ (by omega)
      have hm87 : lot1 (lot1 (lot1 xl)) % ((olS sg) + 1) < ((olS sg) + 1) := Nat.mod_lt _ (by omega)
      refine lv_iload_n hx hb dX4_driftOneLine_90 rfl (lv_at hl 0 rfl) ?_
      refine cWi (As := [.int (nI (lot1 (lot1 (lot1 xl)) % ((olS sg) + 1))), .int (nI (65 + (lot1 (lot1 xl) % 26)))]) (rest := []) (S := oS) (wa := xw G h x wn wa w0 w1 rd wr z jj (lN (lot1 (lot1 (lot1 xl))))) (wc := wv G (fun k => h (10 + k)) wn) (w1 := fun v => wv G (fun k => h (10 + k)) v) (wa' := fun v => xw G h x v wa w0 w1 rd wr z jj (lN (lot1 (lot1 (lot1 xl))))) ⟨hx, hb, hml, hown, hts⟩ (mt_X3_putByNextF l G (fun k => h (10 + k)) _ wn (sg.1 0) (sg.1 4) (lot1 (lot1 (lot1 xl)) % ((olS sg) + 1)) (nI (65 + (lot1 (lot1 xl) % 26))) (hCW.1) (hCW.2.1) (hv23) (by first | assumption | omega) (by omega)) (cwV 2 hts gX4_driftOneLine_X3_putByNext rfl rfl rfl ⟨rfl, hd_X3_putByNext⟩ ⟨Nat.le_of_ble_eq_true rfl, Nat.le_of_ble_eq_true rfl⟩) hK hN hP hD hS hA [3, 4, 5, 6, 7, 8, 9, 10] (xc_now _ _ _ _ _ _ _ _ _ _ _ _) (by decide) (xf_now _ _ _ _ _ _ _ _ _ _ _ _) (fun _ => rfl) (fun v => xo_now _ _ _ _ _ _ _ _ _ _ _ _ v) (fun v => xm_now _ _ _ _ _ _ _ _ _ _ _ _ v) 0 3 rfl rfl rfl hl.1 rfl (Nat.le_of_ble_eq_true rfl) ⟨Nat.zero_le _, Nat.zero_le _⟩ dX4_driftOneLine_91 (fun r91 u91 H locs hw91 hP hD hS => ?_)
      obtain ⟨rfl, rfl⟩ := hw91
      have hP : PP G (xw G h x (insW wn (posP (sdb (wn.2 7) (wn.2 8) (wn.2 4 (sg.1 0))) (sg.1 4) (lot1 (lot1 (lot1 xl)) % ((olS sg) + 1))) (sg.1 4) (nI (65 + (lot1 (lot1 xl) % 26))) (nI (sg.1 0)) (nI 0)) wa w0 w1 rd wr z jj (lN (lot1 (lot1 (lot1 xl))))) H := hP
      have hD : va_D A (xw G h x (insW wn (posP (sdb (wn.2 7) (wn.2 8) (wn.2 4 (sg.1 0))) (sg.1 4) (lot1 (lot1 (lot1 xl)) % ((olS sg) + 1))) (sg.1 4) (nI (65 + (lot1 (lot1 xl) % 26))) (nI (sg.1 0)) (nI 0)) wa w0 w1 rd wr z jj (lN (lot1 (lot1 (lot1 xl))))) := hD
      refine lv_pop hx hb dX4_driftOneLine_94 rfl ?_
      refine lv_iconst (v := nI 1) hx hb dX4_driftOneLine_95 (by decide) ?_
      exact W.zret (v := nI 1) hx hb hr (by decide) (fun t ht hW => ⟨⟨nI 1, (x, insW wn (posP (sdb (wn.2 7) (wn.2 8) (wn.2 4 (sg.1 0))) (sg.1 4) (lot1 (lot1 (lot1 xl)) % ((olS sg) + 1))) (sg.1 4) (nI (65 + (lot1 (lot1 xl) % 26))) (nI (sg.1 0)) (nI 0), wa, w0, w1, rd, wr, z, jj, lN (lot1 (lot1 (lot1 xl)))), rfl, ⟨_, (sPut sg (lot1 (lot1 (lot1 xl)) % (olS sg + 1)) (nI (65 + lot1 (lot1 xl) % 26)), lot1 (lot1 (lot1 xl)), true), rfl, (by rw [sLine, if_neg n9, if_neg (show ¬ sg.1 4 = 120 by omega)]), hCW.put, rfl⟩, show PP G (xw G h x (insW wn (posP (sdb (wn.2 7) (wn.2 8) (wn.2 4 (sg.1 0))) (sg.1 4) (lot1 (lot1 (lot1 xl)) % ((olS sg) + 1))) (sg.1 4) (nI (65 + (lot1 (lot1 xl) % 26))) (nI (sg.1 0)) (nI 0)) wa w0 w1 rd wr z jj (lN (lot1 (lot1 (lot1 xl))))) t.heap by rw [ht]; exact hP⟩, hS.F ht⟩) hS.2.2 dX4_driftOneLine_96
    · skip
      have n58 : ¬ ((sg.1 4) < 120) := fun q9 => c58 ((nI_ltI (a := sg.1 4) (b := 120) (by omega) (by omega)).mpr q9)
      refine lv_iconst (v := nI 0) hx hb dX4_driftOneLine_61 (by decide) ?_
      exact W.zret (v := nI 0) hx hb hr (by decide) (fun t ht hW => ⟨⟨nI 0, (x, wn, wa, w0, w1, rd, wr, z, jj, lN (lot1 xl)), rfl, ⟨_, (sg, lot1 xl, false), rfl, (by rw [sLine, if_neg n9, if_pos (show sg.1 4 = 120 by omega)]), hCW, rfl⟩, show PP G (xw G h x wn wa w0 w1 rd wr z jj (lN (lot1 xl))) t.heap by rw [ht]; exact hP⟩, hS.F ht⟩) hS.2.2 dX4_driftOneLine_62
  · skip
    have n9 : (lot1 xl % 3) = 2 := (nI_eq (a := lot1 xl % 3) (b := 2) (by omega) (by omega)).mp c9
    refine lv_iconst (v := nI 1) hx hb dX4_driftOneLine_12 (by decide) ?_
    refine lv_goto (tgt := 17) hx hb dX4_driftOneLine_13 (by decide) ?_
    refine lv_istore_n (lv' := [(1, .int (nI 1)), (0, .ref (h 0))]) hx hb dX4_driftOneLine_17 rfl hl (by decide) rfl (fun ls hl => ?_)
    refine lv_aload_n hx hb dX4_driftOneLine_18 rfl (lv_at hl 1 rfl) ?_
    refine cRi (w := xw G h x wn wa w0 w1 rd wr z jj (lN (lot1 xl))) (As := []) (rest := []) ⟨hx, hb, hml, hown, hts⟩ (mt_X4_openLinesF l G h x wn wa w0 w1 rd wr z jj (lN (lot1 xl)) sg (hCW) (hv23) (hl120)) (cwV 0 hts gX4_driftOneLine_X4_openLines rfl rfl rfl ⟨rfl, hd_X4_openLines⟩ ⟨Nat.le_of_ble_eq_true rfl, Nat.le_of_ble_eq_true rfl⟩) hK hN hP 0 4 rfl rfl rfl hl.1 rfl (Nat.le_of_ble_eq_true rfl) ⟨Nat.zero_le _, Nat.zero_le _⟩ dX4_driftOneLine_19 (fun r19 hw19 => ?_)
    obtain rfl := hw19
    have hc19 : olS sg ≤ sg.1 4 := cnt_le _ _
    refine lv_istore_n (lv' := [(2, .int (nI (olS sg))), (1, .int (nI 1)), (0, .ref (h 0))]) hx hb dX4_driftOneLine_22 rfl hl (by decide) rfl (fun ls hl => ?_)
    refine lv_iload_n hx hb dX4_driftOneLine_23 rfl (lv_at hl 1 rfl) ?_
    refine lv_if_eq (tgt := 49) hx hb dX4_driftOneLine_24 (by decide) (fun c9 => absurd c9 (by decide)) (fun _ => ?_)
    refine lv_iload_n hx hb dX4_driftOneLine_27 rfl (lv_at hl 0 rfl) ?_
    refine lv_if_le (tgt := 47) hx hb dX4_driftOneLine_28 (by decide) (fun c28 => ?_) (fun c28 => ?_)
    · skip
      have n28 : (olS sg) ≤ 0 := (nI_leI (a := olS sg) (b := 0) (by omega) (by omega)).mp c28
      refine lv_iconst (v := nI 1) hx hb dX4_driftOneLine_47 (by decide) ?_
      exact W.zret (v := nI 1) hx hb hr (by decide) (fun t ht hW => ⟨⟨nI 1, (x, wn, wa, w0, w1, rd, wr, z, jj, lN (lot1 xl)), rfl, ⟨_, (sg, lot1 xl, true), rfl, (by rw [sLine, if_pos n9, if_neg (show ¬ 0 < olS sg by omega)]), hCW, rfl⟩, show PP G (xw G h x wn wa w0 w1 rd wr z jj (lN (lot1 xl))) t.heap by rw [ht]; exact hP⟩, hS.F ht⟩) hS.2.2 dX4_driftOneLine_48
    · skip
      have n28 : ¬ ((olS sg) ≤ 0) := fun q9 => c28 ((nI_leI (a := olS sg) (b := 0) (by omega) (by omega)).mpr q9)
      refine lv_aload_n hx hb dX4_driftOneLine_31 rfl (lv_at hl 2 rfl) ?_
      refine va_get (D := gD G) (ci := 4) (v := .ref (h 10)) (C := RX4) (T := TX4) (N := 9) hx hb hts hiX4 hown hK hP 0 (xp_0 _ _ _ _ _ _ _ _ _ _ _ _) rfl 0 (by decide) k10 (fun _ h9 => h9) rfl dX4_driftOneLine_32 ?_
      refine lv_aload_n hx hb dX4_driftOneLine_35 rfl (lv_at hl 2 rfl) ?_
      refine va_get (D := gD G) (ci := 4) (v := .ref (h 80)) (C := RX4) (T := TX4) (N := 9) hx hb hts hiX4 hown hK hP 0 (xp_0 _ _ _ _ _ _ _ _ _ _ _ _) rfl 6 (by decide) k44 (fun _ h9 => h9) rfl dX4_driftOneLine_36 ?_
      refine lv_iload_n hx hb dX4_driftOneLine_39 rfl (lv_at hl 0 rfl) ?_
      refine cWi (As := [.int (nI (olS sg))]) (rest := [.ref (h 10)]) (S := Int64) (wa := xw G h x wn wa w0 w1 rd wr z jj (lN (lot1 xl))) (wc := tv G (fun k => h (80 + k)) (lN (lot1 xl))) (w1 := fun v => tv G (fun k => h (80 + k)) v) (wa' := fun v => xw G h x wn wa w0 w1 rd wr z jj v) ⟨hx, hb, hml, hown, hts⟩ (mt_X0_belowF l G (fun k => h (80 + k)) _ (lN (lot1 xl)) (lot1 xl) (olS sg) (rfl) (lot1_lt _) (by first | assumption | omega) (by first | assumption | omega)) (cwV 1 hts gX4_driftOneLine_X0_below rfl rfl rfl ⟨rfl, hd_X0_below⟩ ⟨Nat.le_of_ble_eq_true rfl, Nat.le_of_ble_eq_true rfl⟩) hK hN hP hD hS hA [54] (xc_t _ _ _ _ _ _ _ _ _ _ _ _) (by decide) (xf_t _ _ _ _ _ _ _ _ _ _ _ _) (fun _ => rfl) (fun v => xo_t _ _ _ _ _ _ _ _ _ _ _ _ v) (fun v => xm_t _ _ _ _ _ _ _ _ _ _ _ _ v) 0 0 rfl rfl rfl hl.1 rfl (Nat.le_of_ble_eq_true rfl) ⟨Nat.zero_le _, Nat.zero_le _⟩ dX4_driftOneLine_40 (fun r40 u40 H locs hw40 hP hD hS => ?_)
      obtain ⟨rfl, rfl⟩ := hw40
      have hP : PP G (xw G h x wn wa w0 w1 rd wr z jj (lN (lot1 (lot1 xl)))) H := hP
      have hD : va_D A (xw G h x wn wa w0 w1 rd wr z jj (lN (lot1 (lot1 xl)))) := hD
      have hl40 : lot1 (lot1 xl) < 2147483647 := Nat.mod_lt _ (by omega)
      have hm40 : lot1 (lot1 xl) % (olS sg) < (olS sg) := Nat.mod_lt _ (by omega)
      refine cWi (As := [.int (nI (lot1 (lot1 xl) % (olS sg)))]) (rest := []) (S := oS) (wa := xw G h x wn wa w0 w1 rd wr z jj (lN (lot1 (lot1 xl)))) (wc := wv G (fun k => h (10 + k)) wn) (w1 := fun v => wv G (fun k => h (10 + k)) v) (wa' := fun v => xw G h x v wa w0 w1 rd wr z jj (lN (lot1 (lot1 xl)))) ⟨hx, hb, hml, hown, hts⟩ (mt_X3_takeByNextF l G (fun k => h (10 + k)) _ wn (sg.1 0) (sg.1 4) (lot1 (lot1 xl) % (olS sg)) (hCW.1) (hCW.2.1) (hv23) (by first | assumption | omega) (by rw [hCW.ol]; exact hm40)) (cwV 1 hts gX4_driftOneLine_X3_takeByNext rfl rfl rfl ⟨rfl, hd_X3_takeByNext⟩ ⟨Nat.le_of_ble_eq_true rfl, Nat.le_of_ble_eq_true rfl⟩) hK hN hP hD hS hA [3, 4, 5, 6, 7, 8, 9, 10] (xc_now _ _ _ _ _ _ _ _ _ _ _ _) (by decide) (xf_now _ _ _ _ _ _ _ _ _ _ _ _) (fun _ => rfl) (fun v => xo_now _ _ _ _ _ _ _ _ _ _ _ _ v) (fun v => xm_now _ _ _ _ _ _ _ _ _ _ _ _ v) 0 3 rfl rfl rfl hl.1 rfl (Nat.le_of_ble_eq_true rfl) ⟨Nat.zero_le _, Nat.zero_le _⟩ dX4_driftOneLine_43 (fun r43 u43 H locs hw43 hP hD hS => ?_)
      obtain ⟨rfl, rfl⟩ := hw43
      have hP : PP G (xw G h x (tkW wn (fndN (sdb (wn.2 7) (wn.2 8) (wn.2 4 (sg.1 0))) (sg.1 4) (lot1 (lot1 xl) % (olS sg))) (sg.1 0) (sg.1 4)) wa w0 w1 rd wr z jj (lN (lot1 (lot1 xl)))) H := hP
      have hD : va_D A (xw G h x (tkW wn (fndN (sdb (wn.2 7) (wn.2 8) (wn.2 4 (sg.1 0))) (sg.1 4) (lot1 (lot1 xl) % (olS sg))) (sg.1 0) (sg.1 4)) wa w0 w1 rd wr z jj (lN (lot1 (lot1 xl)))) := hD
      refine lv_pop hx hb dX4_driftOneLine_46 rfl ?_
      refine lv_iconst (v := nI 1) hx hb dX4_driftOneLine_47 (by decide) ?_
      exact W.zret (v := nI 1) hx hb hr (by decide) (fun t ht hW => ⟨⟨nI 1, (x, tkW wn (fndN (sdb (wn.2 7) (wn.2 8) (wn.2 4 (sg.1 0))) (sg.1 4) (lot1 (lot1 xl) % (olS sg))) (sg.1 0) (sg.1 4), wa, w0, w1, rd, wr, z, jj, lN (lot1 (lot1 xl))), rfl, ⟨_, (sTake sg (fndN (sdS sg (cvS sg (sg.1 0))) (sg.1 4) (lot1 (lot1 xl) % olS sg)), lot1 (lot1 xl), true), rfl, (by rw [sLine, if_pos n9, if_pos (show 0 < olS sg by omega)]), (show CW _ (sTake sg _) ((sTake sg _).1 0 + 1) from by rw [(stL_take sg _).1 0 (by decide)]; exact hCW.tk' hm40), rfl⟩, show PP G (xw G h x (tkW wn (fndN (sdb (wn.2 7) (wn.2 8) (wn.2 4 (sg.1 0))) (sg.1 4) (lot1 (lot1 xl) % (olS sg))) (sg.1 0) (sg.1 4)) wa w0 w1 rd wr z jj (lN (lot1 (lot1 xl)))) t.heap by rw [ht]; exact hP⟩, hS.F ht⟩) hS.2.2 dX4_driftOneLine_48
set_option maxHeartbeats 1000000 in
set_option maxRecDepth 100000 in
theorem mt_X4_driftOneVersionF (l : Launch) (G : gG) (h : Nat → Nat) (sz : Nat) (x : oS) (wn : oS) (wa : oS) (w0 : oS) (w1 : oS) (rd : oS) (wr : oS) (z : oS) (jj : Nat → Nat → Int64) (lt : Int64) (sg : pS) (xl : Nat) (hIS : IS sg) (ho8 : sg.1 8 = 0) (h00 : 0 < sg.1 0) (hCW : CW wn sg (sg.1 0)) (hlt : lt = lN xl) (hxx : xl < 2147483647) : Met l yX4_driftOneVersion wsX4_driftOneVersion ({ frames := 5, cells := 0, slots := 0, locals := 119 }) (preW G (xw G h x wn wa w0 w1 rd wr z jj lt) sz [.ref (h 0)]) (va_Qi (fun (r : Int32) (v : oS × oS × oS × oS × oS × oS × oS × oS × (Nat → Nat → Int64) × Int64) => (sg.1 0 = 24 ∧ v = (x, wn, wa, w0, w1, rd, wr, z, jj, lN xl) ∧ r = 0) ∨ (sg.1 0 < 24 ∧ ∃ w t, v = (x, w, wa, w0, w1, rd, wr, z, jj, lN t.2.1) ∧ t = sVer (sg, xl, true) ∧ CW w t.1 (t.1.1 0) ∧ r = (if t.2.2 = true then 1 else 0))) (fun v t => PP G (xw G h v.1 v.2.1 v.2.2.1 v.2.2.2.1 v.2.2.2.2.1 v.2.2.2.2.2.1 v.2.2.2.2.2.2.1 v.2.2.2.2.2.2.2.1 v.2.2.2.2.2.2.2.2.1 v.2.2.2.2.2.2.2.2.2) t.heap) (va_A (xw G h x wn wa w0 w1 rd wr z jj lt) sz)) 0 0 (va_A (xw G h x wn wa w0 w1 rd wr z jj lt) sz) := by
  refine Met.ofW (cc := cX4_driftOneVersion) (maxL := 3) (ret := (some .boolean)) (by decide) rfl ?_
  intro p e s m args below meth c s₁ B hml hv
  obtain ⟨ha, hsz, hP, hK, hN, hD0⟩ := hv
  subst ha
  have hx := B.exec
  have hb := B.bytes
  have hr := B.returns
  have hts := atoms_spec (ws := wsX4_driftOneVersion) B.pre
  have hown : s.vm.findClass RX4 = some m.cls := findClass_of_methodNamed B.named
  have hlocks := B.notSynchronized
  subst hsz
  have hD := hD0.self (sz := s.heap.size)
  generalize hAe : va_A (xw G h x wn wa w0 w1 rd wr z jj lt) s.heap.size = A at hD ⊢
  have hA : ∀ q : Nat, s.heap.size ≤ q → A q := fun q h => by rw [← hAe]; exact Or.inr h
  clear hAe hD0
  have hS : va_S A s.heap s.heap [] := va_S.rf
  have hiX4 : ∀ w ∈ wsX40, w ∈ wsX4_driftOneVersion := fun w h9 => List.mem_cons_of_mem _ (List.mem_append_left _ (List.mem_append_left _ (List.mem_append_right _ (h9))))
  have k10 := hts (.fieldLink RX4 10 "WovenHistory" "now" "LWovenHistory$Weave;") (List.mem_of_getElem? (i := 1) rfl)
  have hiX3 : ∀ w ∈ wsX30, w ∈ wsX4_driftOneVersion := fun w h9 => List.mem_cons_of_mem _ (List.mem_append_left _ (List.mem_append_right _ (h9)))
  have k82 : (Cond.fieldLinkNest "WovenHistory" 82 "WovenHistory$Weave" "versions" "I" "WovenHistory").before _ s = true := va_Nw.use (A := ([.ref (h 0)] : List Value).toArray) rfl (hN.1 ("WovenHistory", 82, "WovenHistory$Weave", "versions", "I") (List.mem_of_getElem? (i := 12) rfl))
  have k44 := hts (.fieldLink RX4 44 "WovenHistory" "lots" "LWovenHistory$Lots;") (List.mem_of_getElem? (i := 2) rfl)
  have hl := lv_entry ([.ref (h 0)]) (n := 3) (Nat.le_of_ble_eq_true rfl)
  rw [lg_entry_eq]
  generalize (lg_sl ([.ref (h 0)]) ++ List.replicate (3 - (lg_sl ([.ref (h 0)])).length) Slot.unset).toArray = ls at hl ⊢
  have hl : lv_has ls 3 [(0, .ref (h 0))] := hl
  subst hlt
  have hl120 := hIS.2.1
  have hv24 := hIS.1
  have hic0 := hIS.ic
  have hic : IC sg (sg.1 0) := hic0.lo (by omega)
  refine lv_aload_n hx hb dX4_driftOneVersion_0 rfl (lv_at hl 0 rfl) ?_
  refine va_get (D := gD G) (ci := 4) (v := .ref (h 10)) (C := RX4) (T := TX4) (N := 9) hx hb hts hiX4 hown hK hP 0 (xp_0 _ _ _ _ _ _ _ _ _ _ _ _) rfl 0 (by decide) k10 (fun _ h9 => h9) rfl dX4_driftOneVersion_1 ?_
  refine va_getN (D := gD G) (ci := 3) (v := .int (wn.1 0)) (C := RX3) (T := TX3) (N := 9) hx hb hts hiX3 hown hK hP 3 (xp_3 _ _ _ _ _ _ _ _ _ _ _ _) rfl 0 (by decide) k82 (fun _ h9 => h9) rfl dX4_driftOneVersion_4 ?_
  refine topE hCW.1 ?_
  refine lv_bipush (v := nI 24) hx hb dX4_driftOneVersion_7 (by decide) ?_
  refine lv_icmp_lt (tgt := 14) hx hb dX4_driftOneVersion_9 (by decide) (fun c9 => ?_) (fun c9 => ?_)
  · skip
    have n9 : (sg.1 0) < 24 := (nI_ltI (a := sg.1 0) (b := 24) (by omega) (by omega)).mp c9
    refine lv_aload_n hx hb dX4_driftOneVersion_14 rfl (lv_at hl 0 rfl) ?_
    refine va_get (D := gD G) (ci := 4) (v := .ref (h 10)) (C := RX4) (T := TX4) (N := 9) hx hb hts hiX4 hown hK hP 0 (xp_0 _ _ _ _ _ _ _ _ _ _ _ _) rfl 0 (by decide) k10 (fun _ h9 => h9) rfl dX4_driftOneVersion_15 ?_
    refine lv_aload_n hx hb dX4_driftOneVersion_18 rfl (lv_at hl 0 rfl) ?_
    refine va_get (D := gD G) (ci := 4) (v := .ref (h 80)) (C := RX4) (T := TX4) (N := 9) hx hb hts hiX4 hown hK hP 0 (xp_0 _ _ _ _ _ _ _ _ _ _ _ _) rfl 6 (by decide) k44 (fun _ h9 => h9) rfl dX4_driftOneVersion_19 ?_
    refine lv_aload_n hx hb dX4_driftOneVersion_22 rfl (lv_at hl 0 rfl) ?_
    refine va_get (D := gD G) (ci := 4) (v := .ref (h 10)) (C := RX4) (T := TX4) (N := 9) hx hb hts hiX4 hown hK hP 0 (xp_0 _ _ _ _ _ _ _ _ _ _ _ _) rfl 0 (by decide) k10 (fun _ h9 => h9) rfl dX4_driftOneVersion_23 ?_
    refine va_getN (D := gD G) (ci := 3) (v := .int (wn.1 0)) (C := RX3) (T := TX3) (N := 9) hx hb hts hiX3 hown hK hP 3 (xp_3 _ _ _ _ _ _ _ _ _ _ _ _) rfl 0 (by decide) k82 (fun _ h9 => h9) rfl dX4_driftOneVersion_26 ?_
    refine topE hCW.1 ?_
    refine cWi (As := [.int (nI (sg.1 0))]) (rest := [.ref (h 10)]) (S := Int64) (wa := xw G h x wn wa w0 w1 rd wr z jj (lN xl)) (wc := tv G (fun k => h (80 + k)) (lN xl)) (w1 := fun v => tv G (fun k => h (80 + k)) v) (wa' := fun v => xw G h x wn wa w0 w1 rd wr z jj v) ⟨hx, hb, hml, hown, hts⟩ (mt_X0_belowF l G (fun k => h (80 + k)) _ (lN xl) xl (sg.1 0) (rfl) (hxx) (by first | assumption | omega) (by first | assumption | omega)) (cwV 1 hts gX4_driftOneVersion_X0_below rfl rfl rfl ⟨rfl, hd_X0_below⟩ ⟨Nat.le_of_ble_eq_true rfl, Nat.le_of_ble_eq_true rfl⟩) hK hN hP hD hS hA [54] (xc_t _ _ _ _ _ _ _ _ _ _ _ _) (by decide) (xf_t _ _ _ _ _ _ _ _ _ _ _ _) (fun _ => rfl) (fun v => xo_t _ _ _ _ _ _ _ _ _ _ _ _ v) (fun v => xm_t _ _ _ _ _ _ _ _ _ _ _ _ v) 0 0 rfl rfl rfl hl.1 rfl (Nat.le_of_ble_eq_true rfl) ⟨Nat.zero_le _, Nat.zero_le _⟩ dX4_driftOneVersion_29 (fun r29 u29 H locs hw29 hP hD hS => ?_)
    obtain ⟨rfl, rfl⟩ := hw29
    have hP : PP G (xw G h x wn wa w0 w1 rd wr z jj (lN (lot1 xl))) H := hP
    have hD : va_D A (xw G h x wn wa w0 w1 rd wr z jj (lN (lot1 xl))) := hD
    have hl29 : lot1 xl < 2147483647 := Nat.mod_lt _ (by omega)
    have hm29 : lot1 xl % (sg.1 0) < (sg.1 0) := Nat.mod_lt _ (by omega)
    refine lv_iconst (v := nI 0) hx hb dX4_driftOneVersion_32 (by decide) ?_
    refine lv_iconst (v := nI 0) hx hb dX4_driftOneVersion_33 (by decide) ?_
    refine cWv (As := [.int (nI (lot1 xl % (sg.1 0))), .int (nI 0), .int (nI 0)]) (rest := []) (S := oS) (wa := xw G h x wn wa w0 w1 rd wr z jj (lN (lot1 xl))) (wc := wv G (fun k => h (10 + k)) wn) (w1 := fun v => wv G (fun k => h (10 + k)) v) (wa' := fun v => xw G h x v wa w0 w1 rd wr z jj (lN (lot1 xl))) ⟨hx, hb, hml, hown, hts⟩ (mt_X3_beginVersionF l G (fun k => h (10 + k)) _ wn (sg.1 0) (nI (lot1 xl % (sg.1 0))) (nI 0) (nI 0) (hCW.1) (n9) (Or.inr ⟨_, Nat.mod_lt _ h00, rfl⟩) (hCW.pw hic (Nat.le_refl _)) (hCW.ch hic (Nat.le_refl _))) (cwV 3 hts gX4_driftOneVersion_X3_beginVersion rfl rfl rfl ⟨rfl, hd_X3_beginVersion⟩ ⟨Nat.le_of_ble_eq_true rfl, Nat.le_of_ble_eq_true rfl⟩) hK hN hP hD hS hA [3, 4, 5, 6, 7, 8, 9, 10] (xc_now _ _ _ _ _ _ _ _ _ _ _ _) (by decide) (xf_now _ _ _ _ _ _ _ _ _ _ _ _) (fun _ => rfl) (fun v => xo_now _ _ _ _ _ _ _ _ _ _ _ _ v) (fun v => xm_now _ _ _ _ _ _ _ _ _ _ _ _ v) 0 3 rfl rfl rfl hl.1 rfl (Nat.le_of_ble_eq_true rfl) ⟨Nat.zero_le _, Nat.zero_le _⟩ dX4_driftOneVersion_34 (fun u34 H locs hw34 hP hD hS => ?_)
    obtain rfl := hw34
    have hP : PP G (xw G h x (bgW wn (sg.1 0) (nI (lot1 xl % (sg.1 0))) (nI 0) (nI 0)) wa w0 w1 rd wr z jj (lN (lot1 xl))) H := hP
    have hD : va_D A (xw G h x (bgW wn (sg.1 0) (nI (lot1 xl % (sg.1 0))) (nI 0) (nI 0)) wa w0 w1 rd wr z jj (lN (lot1 xl))) := hD
    refine lv_iconst (v := nI 1) hx hb dX4_driftOneVersion_37 (by decide) ?_
    refine lv_istore_n (lv' := [(1, .int (nI 1)), (0, .ref (h 0))]) hx hb dX4_driftOneVersion_38 rfl hl (by decide) rfl (fun ls hl => ?_)
    refine lv_iconst (v := nI 0) hx hb dX4_driftOneVersion_39 (by decide) ?_
    refine lv_istore_n (lv' := [(2, .int (nI 0)), (1, .int (nI 1)), (0, .ref (h 0))]) hx hb dX4_driftOneVersion_40 rfl hl (by decide) rfl (fun ls hl => ?_)
    have LP41 : ∀ (n41m : Nat), ∀ (k : Nat) (gg2 : Int32) (pw : oS) (t2 : pS) (zl : Nat) (b2 : Bool) (hI2 : IS t2) (hR2 : CW pw t2 (t2.1 0 + 1)) (ho22 : t2.1 8 = 1) (h02 : t2.1 0 = sg.1 0) (hzz : zl < 2147483647) (hgg2 : gg2 = (if b2 = true then 1 else 0)) (hk : k ≤ 3) (hs2 : sLines (3 - k) (t2, zl, b2) = (sLines 3 (sOpen sg (nI (lot1 xl % sg.1 0)), lot1 xl, true))), (3 - k < n41m) → ∀ (H : Heap) (locs : List Loc) (ls : Array Slot), PP G (xw G h x pw wa w0 w1 rd wr z jj (lN zl)) H → va_D A (xw G h x pw wa w0 w1 rd wr z jj (lN zl)) → va_S A s.heap H locs → lv_has ls 3 [(0, .ref (h 0)), (1, .int gg2), (2, .int (nI k))] → W p l e (headSpec wsX4_driftOneVersion ({ frames := 5, cells := 0, slots := 0, locals := 119 })).room s m ([.ref (h 0)] : List Value).toArray below meth c H locs 0 0 (MQ below (va_Qi (fun (r : Int32) (v : oS × oS × oS × oS × oS × oS × oS × oS × (Nat → Nat → Int64) × Int64) => (sg.1 0 = 24 ∧ v = (x, wn, wa, w0, w1, rd, wr, z, jj, lN xl) ∧ r = 0) ∨ (sg.1 0 < 24 ∧ ∃ w t, v = (x, w, wa, w0, w1, rd, wr, z, jj, lN t.2.1) ∧ t = sVer (sg, xl, true) ∧ CW w t.1 (t.1.1 0) ∧ r = (if t.2.2 = true then 1 else 0))) (fun v t => PP G (xw G h v.1 v.2.1 v.2.2.1 v.2.2.2.1 v.2.2.2.2.1 v.2.2.2.2.2.1 v.2.2.2.2.2.2.1 v.2.2.2.2.2.2.2.1 v.2.2.2.2.2.2.2.2.1 v.2.2.2.2.2.2.2.2.2) t.heap) A) ([.ref (h 0)] : List Value).toArray s 0 0 A) (F0 m 41 ls []) := by
      intro n41m
      induction n41m with
      | zero => intro k gg2 pw t2 zl b2 hI2 hR2 ho22 h02 hzz hgg2 hk hs2 hmu H locs ls hP hD hS hl; exact absurd hmu (Nat.not_lt_zero _)
      | succ n41m ih41 =>
        intro k gg2 pw t2 zl b2 hI2 hR2 ho22 h02 hzz hgg2 hk hs2 hmu H locs ls hP hD hS hl
        refine lv_iload_n hx hb dX4_driftOneVersion_41 rfl (lv_at hl 2 rfl) ?_
        refine lv_iconst (v := nI 3) hx hb dX4_driftOneVersion_42 (by decide) ?_
        refine lv_icmp_ge (tgt := 61) hx hb dX4_driftOneVersion_43 (by decide) (fun c43 => ?_) (fun c43 => ?_)
        · skip
          have n43 : 3 ≤ k := (nI_leI (a := 3) (b := k) (by omega) (by omega)).mp c43
          have hend : (sLines 3 (sOpen sg (nI (lot1 xl % sg.1 0)), lot1 xl, true)) = (t2, zl, b2) := by first | exact hs2.symm.trans (congrArg (fun n => sLines n (t2, zl, b2)) (show 3 - k = 0 by omega)) | exact hs2.symm.trans (sLines_e hb2)
          refine lv_aload_n hx hb dX4_driftOneVersion_61 rfl (lv_at hl 0 rfl) ?_
          refine va_get (D := gD G) (ci := 4) (v := .ref (h 10)) (C := RX4) (T := TX4) (N := 9) hx hb hts hiX4 hown hK hP 0 (xp_0 _ _ _ _ _ _ _ _ _ _ _ _) rfl 0 (by decide) k10 (fun _ h9 => h9) rfl dX4_driftOneVersion_62 ?_
          refine cWv (As := []) (rest := []) (S := oS) (wa := xw G h x pw wa w0 w1 rd wr z jj (lN zl)) (wc := wv G (fun k => h (10 + k)) pw) (w1 := fun v => wv G (fun k => h (10 + k)) v) (wa' := fun v => xw G h x v wa w0 w1 rd wr z jj (lN zl)) ⟨hx, hb, hml, hown, hts⟩ (mt_X3_finishVersionF l G (fun k => h (10 + k)) _ pw (t2.1 0) (hR2.1) (by omega)) (cwV 0 hts gX4_driftOneVersion_X3_finishVersion rfl rfl rfl ⟨rfl, hd_X3_finishVersion⟩ ⟨Nat.le_of_ble_eq_true rfl, Nat.le_of_ble_eq_true rfl⟩) hK hN hP hD hS hA [3, 4, 5, 6, 7, 8, 9, 10] (xc_now _ _ _ _ _ _ _ _ _ _ _ _) (by decide) (xf_now _ _ _ _ _ _ _ _ _ _ _ _) (fun _ => rfl) (fun v => xo_now _ _ _ _ _ _ _ _ _ _ _ _ v) (fun v => xm_now _ _ _ _ _ _ _ _ _ _ _ _ v) 0 3 rfl rfl rfl hl.1 rfl (Nat.le_of_ble_eq_true rfl) ⟨Nat.zero_le _, Nat.zero_le _⟩ dX4_driftOneVersion_65 (fun u65 H locs hw65 hP hD hS => ?_)
          obtain rfl := hw65
          have hP : PP G (xw G h x (oI pw 0 (nI ((t2.1 0) + 1))) wa w0 w1 rd wr z jj (lN zl)) H := hP
          have hD : va_D A (xw G h x (oI pw 0 (nI ((t2.1 0) + 1))) wa w0 w1 rd wr z jj (lN zl)) := hD
          refine lv_iload_n hx hb dX4_driftOneVersion_68 rfl (lv_at hl 1 rfl) ?_
          exact W.zret (v := gg2) hx hb hr (nar01 (by rw [hgg2]; cases b2; (exact Or.inl rfl); (exact Or.inr rfl))) (fun t ht hW => ⟨⟨gg2, (x, oI pw 0 (nI ((t2.1 0) + 1)), wa, w0, w1, rd, wr, z, jj, lN zl), rfl, Or.inr ⟨n9, _, (sClose t2, zl, b2), rfl, (by show _ = (sClose (sLines 3 (sOpen sg (nI (lot1 xl % sg.1 0)), lot1 xl, true)).1, (sLines 3 (sOpen sg (nI (lot1 xl % sg.1 0)), lot1 xl, true)).2.1, (sLines 3 (sOpen sg (nI (lot1 xl % sg.1 0)), lot1 xl, true)).2.2); rw [hend]), hR2.cls, hgg2⟩, show PP G (xw G h x (oI pw 0 (nI ((t2.1 0) + 1))) wa w0 w1 rd wr z jj (lN zl)) t.heap by rw [ht]; exact hP⟩, hS.F ht⟩) hS.2.2 dX4_driftOneVersion_69
        · skip
          have n43 : ¬ (3 ≤ k) := fun q9 => c43 ((nI_leI (a := 3) (b := k) (by omega) (by omega)).mpr q9)
          refine lv_iload_n hx hb dX4_driftOneVersion_46 rfl (lv_at hl 1 rfl) ?_
          refine lv_if_eq (tgt := 61) hx hb dX4_driftOneVersion_47 (by decide) (fun c47 => ?_) (fun c47 => ?_)
          · skip
            have hb2 : ¬ b2 = true := by cases b2; decide; exact absurd (hgg2.symm.trans c47) (by decide)
            have hend : (sLines 3 (sOpen sg (nI (lot1 xl % sg.1 0)), lot1 xl, true)) = (t2, zl, b2) := by first | exact hs2.symm.trans (congrArg (fun n => sLines n (t2, zl, b2)) (show 3 - k = 0 by omega)) | exact hs2.symm.trans (sLines_e hb2)
            refine lv_aload_n hx hb dX4_driftOneVersion_61 rfl (lv_at hl 0 rfl) ?_
            refine va_get (D := gD G) (ci := 4) (v := .ref (h 10)) (C := RX4) (T := TX4) (N := 9) hx hb hts hiX4 hown hK hP 0 (xp_0 _ _ _ _ _ _ _ _ _ _ _ _) rfl 0 (by decide) k10 (fun _ h9 => h9) rfl dX4_driftOneVersion_62 ?_
            refine cWv (As := []) (rest := []) (S := oS) (wa := xw G h x pw wa w0 w1 rd wr z jj (lN zl)) (wc := wv G (fun k => h (10 + k)) pw) (w1 := fun v => wv G (fun k => h (10 + k)) v) (wa' := fun v => xw G h x v wa w0 w1 rd wr z jj (lN zl)) ⟨hx, hb, hml, hown, hts⟩ (mt_X3_finishVersionF l G (fun k => h (10 + k)) _ pw (t2.1 0) (hR2.1) (by omega)) (cwV 0 hts gX4_driftOneVersion_X3_finishVersion rfl rfl rfl ⟨rfl, hd_X3_finishVersion⟩ ⟨Nat.le_of_ble_eq_true rfl, Nat.le_of_ble_eq_true rfl⟩) hK hN hP hD hS hA [3, 4, 5, 6, 7, 8, 9, 10] (xc_now _ _ _ _ _ _ _ _ _ _ _ _) (by decide) (xf_now _ _ _ _ _ _ _ _ _ _ _ _) (fun _ => rfl) (fun v => xo_now _ _ _ _ _ _ _ _ _ _ _ _ v) (fun v => xm_now _ _ _ _ _ _ _ _ _ _ _ _ v) 0 3 rfl rfl rfl hl.1 rfl (Nat.le_of_ble_eq_true rfl) ⟨Nat.zero_le _, Nat.zero_le _⟩ dX4_driftOneVersion_65 (fun u65 H locs hw65 hP hD hS => ?_)
            obtain rfl := hw65
            have hP : PP G (xw G h x (oI pw 0 (nI ((t2.1 0) + 1))) wa w0 w1 rd wr z jj (lN zl)) H := hP
            have hD : va_D A (xw G h x (oI pw 0 (nI ((t2.1 0) + 1))) wa w0 w1 rd wr z jj (lN zl)) := hD
            refine lv_iload_n hx hb dX4_driftOneVersion_68 rfl (lv_at hl 1 rfl) ?_
            exact W.zret (v := gg2) hx hb hr (nar01 (by rw [hgg2]; cases b2; (exact Or.inl rfl); (exact Or.inr rfl))) (fun t ht hW => ⟨⟨gg2, (x, oI pw 0 (nI ((t2.1 0) + 1)), wa, w0, w1, rd, wr, z, jj, lN zl), rfl, Or.inr ⟨n9, _, (sClose t2, zl, b2), rfl, (by show _ = (sClose (sLines 3 (sOpen sg (nI (lot1 xl % sg.1 0)), lot1 xl, true)).1, (sLines 3 (sOpen sg (nI (lot1 xl % sg.1 0)), lot1 xl, true)).2.1, (sLines 3 (sOpen sg (nI (lot1 xl % sg.1 0)), lot1 xl, true)).2.2); rw [hend]), hR2.cls, hgg2⟩, show PP G (xw G h x (oI pw 0 (nI ((t2.1 0) + 1))) wa w0 w1 rd wr z jj (lN zl)) t.heap by rw [ht]; exact hP⟩, hS.F ht⟩) hS.2.2 dX4_driftOneVersion_69
          · skip
            have hb2 : b2 = true := by cases b2; (exact absurd (hgg2.trans rfl) c47); rfl
            refine lv_aload_n hx hb dX4_driftOneVersion_50 rfl (lv_at hl 0 rfl) ?_
            refine cXi (As := []) (rest := []) (S := oS × oS × oS × oS × oS × oS × oS × oS × (Nat → Nat → Int64) × Int64) (wa := xw G h x pw wa w0 w1 rd wr z jj (lN zl)) (w1 := fun v => xw G h v.1 v.2.1 v.2.2.1 v.2.2.2.1 v.2.2.2.2.1 v.2.2.2.2.2.1 v.2.2.2.2.2.2.1 v.2.2.2.2.2.2.2.1 v.2.2.2.2.2.2.2.2.1 v.2.2.2.2.2.2.2.2.2) ⟨hx, hb, hml, hown, hts⟩ (mt_X4_driftOneLineF l G h _ x pw wa w0 w1 rd wr z jj (lN zl) t2 zl (hI2) (ho22) (hR2) (rfl) (hzz)) (cwV 0 hts gX4_driftOneVersion_X4_driftOneLine rfl rfl rfl ⟨rfl, hd_X4_driftOneLine⟩ ⟨Nat.le_of_ble_eq_true rfl, Nat.le_of_ble_eq_true rfl⟩) hK hN hP hD hS hA (fun v => xm_x _ _ _ _ _ _ _ _ _ _ _ _ v) 0 4 rfl rfl rfl hl.1 rfl (Nat.le_of_ble_eq_true rfl) ⟨Nat.zero_le _, Nat.zero_le _⟩ dX4_driftOneVersion_51 (fun r51 u51 H locs hw51 hP hD hS => ?_)
            obtain ⟨w51, t51, rfl, et51, hR51, er51⟩ := hw51
            have hP : PP G (xw G h x w51 wa w0 w1 rd wr z jj (lN t51.2.1)) H := hP
            have hD : va_D A (xw G h x w51 wa w0 w1 rd wr z jj (lN t51.2.1)) := hD
            refine lv_istore_n (lv' := [(1, .int r51), (0, .ref (h 0)), (2, .int (nI k))]) hx hb dX4_driftOneVersion_54 rfl hl (by decide) rfl (fun ls hl => ?_)
            refine lv_iinc (v := nI (k + 1)) (lv' := [(2, .int (nI (k + 1))), (1, .int r51), (0, .ref (h 0))]) hx hb dX4_driftOneVersion_55 hl (k := 2) rfl (nI_1 k) (by decide) rfl (fun ls hl => ?_)
            refine lv_goto (tgt := 41) hx hb dX4_driftOneVersion_58 (by decide) ?_
            exact ih41 (k + 1) r51 w51 t51.1 t51.2.1 t51.2.2 ((by rw [et51]; exact IS_line hI2)) (hR51) ((by rw [et51]; exact (sLine_n _ _).2.trans ho22)) ((by rw [et51]; exact (sLine_n _ _).1.trans h02)) ((by rw [et51]; exact sLine_x _ _)) (er51) (by first | assumption | omega) (((congrArg (sLines (3 - (k + 1))) et51).trans ((sLines_s (t := (t2, zl, b2)) hb2).symm.trans (congrArg (fun n => sLines n (t2, zl, b2)) (show 3 - (k + 1) + 1 = 3 - k by omega)))).trans hs2) (by omega) _ _ ls hP hD hS (lv_sub hl [2, 1, 0] rfl)
    exact LP41 (3 - 0 + 1) 0 (nI 1) (bgW wn (sg.1 0) (nI (lot1 xl % (sg.1 0))) (nI 0) (nI 0)) (sOpen sg (nI (lot1 xl % sg.1 0))) (lot1 xl) true (IS_opn hIS ho8 n9 (Or.inr ⟨_, Nat.mod_lt _ h00, rfl⟩)) (hCW.opn hic n9 (Or.inr ⟨_, Nat.mod_lt _ h00, rfl⟩)) (rfl) (rfl) (lot1_lt _) (rfl) (by first | assumption | omega) (rfl) (Nat.lt_succ_self _) _ _ ls hP hD hS (lv_sub hl [2, 1, 0] rfl)
  · skip
    have n9 : ¬ ((sg.1 0) < 24) := fun q9 => c9 ((nI_ltI (a := sg.1 0) (b := 24) (by omega) (by omega)).mpr q9)
    refine lv_iconst (v := nI 0) hx hb dX4_driftOneVersion_12 (by decide) ?_
    exact W.zret (v := nI 0) hx hb hr (by decide) (fun t ht hW => ⟨⟨nI 0, (x, wn, wa, w0, w1, rd, wr, z, jj, lN xl), rfl, Or.inl ⟨by omega, rfl, rfl⟩, show PP G (xw G h x wn wa w0 w1 rd wr z jj (lN xl)) t.heap by rw [ht]; exact hP⟩, hS.F ht⟩) hS.2.2 dX4_driftOneVersion_13
set_option maxHeartbeats 1000000 in
set_option maxRecDepth 100000 in
theorem mt_X4_driftS (l : Launch) (G : gG) (h : Nat → Nat) (sz : Nat) (x : oS) (wn : oS) (wa : oS) (w0 : oS) (w1 : oS) (rd : oS) (wr : oS) (z : oS) (jj : Nat → Nat → Int64) (lt : Int64) (sg : pS) (zz : Nat → Nat → Int64) (a : Int32) (b : Int32) (hIS : IS sg) (hRX : RepX x wn wa w0 w1 rd z jj sg zz) : Met l yX4_drift wsX4_drift ({ frames := 6, cells := 0, slots := 0, locals := 141 }) (preW G (xw G h x wn wa w0 w1 rd wr z jj lt) sz [.ref (h 0), .int a, .int b]) (va_Qi (fun (r : Int32) (v : oS × oS × oS × oS × oS × oS × oS × oS × (Nat → Nat → Int64) × Int64) => RpX v (driF sg a b) (zz) ∧ r = driA sg a b) (fun v t => PP G (xw G h v.1 v.2.1 v.2.2.1 v.2.2.2.1 v.2.2.2.2.1 v.2.2.2.2.2.1 v.2.2.2.2.2.2.1 v.2.2.2.2.2.2.2.1 v.2.2.2.2.2.2.2.2.1 v.2.2.2.2.2.2.2.2.2) t.heap) (va_A (xw G h x wn wa w0 w1 rd wr z jj lt) sz)) 0 0 (va_A (xw G h x wn wa w0 w1 rd wr z jj lt) sz) := by
  refine Met.ofW (cc := cX4_drift) (maxL := 5) (ret := (some .int)) (by decide) rfl ?_
  intro p e s m args below meth c s₁ B hml hv
  obtain ⟨ha, hsz, hP, hK, hN, hD0⟩ := hv
  subst ha
  have hx := B.exec
  have hb := B.bytes
  have hr := B.returns
  have hts := atoms_spec (ws := wsX4_drift) B.pre
  have hown : s.vm.findClass RX4 = some m.cls := findClass_of_methodNamed B.named
  have hlocks := B.notSynchronized
  subst hsz
  have hD := hD0.self (sz := s.heap.size)
  generalize hAe : va_A (xw G h x wn wa w0 w1 rd wr z jj lt) s.heap.size = A at hD ⊢
  have hA : ∀ q : Nat, s.heap.size ≤ q → A q := fun q h => by rw [← hAe]; exact Or.inr h
  clear hAe hD0
  have hS : va_S A s.heap s.heap [] := va_S.rf
  have hiX4 : ∀ w ∈ wsX40, w ∈ wsX4_drift := fun w h9 => List.mem_cons_of_mem _ (List.mem_append_left _ (List.mem_append_left _ (List.mem_append_right _ (h9))))
  have k48 := hts (.fieldLink RX4 48 "WovenHistory" "opened" "Z") (List.mem_of_getElem? (i := 3) rfl)
  have k10 := hts (.fieldLink RX4 10 "WovenHistory" "now" "LWovenHistory$Weave;") (List.mem_of_getElem? (i := 4) rfl)
  have hiX3 : ∀ w ∈ wsX30, w ∈ wsX4_drift := fun w h9 => List.mem_cons_of_mem _ (List.mem_append_left _ (List.mem_append_right _ (h9)))
  have k82 : (Cond.fieldLinkNest "WovenHistory" 82 "WovenHistory$Weave" "versions" "I" "WovenHistory").before _ s = true := va_Nw.use (A := ([.ref (h 0), .int a, .int b] : List Value).toArray) rfl (hN.1 ("WovenHistory", 82, "WovenHistory$Weave", "versions", "I") (List.mem_of_getElem? (i := 12) rfl))
  have k44 := hts (.fieldLink RX4 44 "WovenHistory" "lots" "LWovenHistory$Lots;") (List.mem_of_getElem? (i := 6) rfl)
  have hl := lv_entry ([.ref (h 0), .int a, .int b]) (n := 5) (Nat.le_of_ble_eq_true rfl)
  rw [lg_entry_eq]
  generalize (lg_sl ([.ref (h 0), .int a, .int b]) ++ List.replicate (5 - (lg_sl ([.ref (h 0), .int a, .int b])).length) Slot.unset).toArray = ls at hl ⊢
  have hl : lv_has ls 5 [(0, .ref (h 0)), (1, .int a), (2, .int b)] := hl
  have hC := hRX.1
  have hic := hIS.ic
  have hv24 := hIS.1
  have hl120 := hIS.2.1
  have ho1 := hIS.2.2.1
  refine lv_iload_n hx hb dX4_drift_0 rfl (lv_at hl 1 rfl) ?_
  refine lv_iconst (v := nI 1) hx hb dX4_drift_1 (by decide) ?_
  refine lv_icmp_lt (tgt := 22) hx hb dX4_drift_2 (by decide) (fun c2 => ?_) (fun c2 => ?_)
  · skip
    refine lv_ldc (v := (-1000000002 : Int32)) hx hb hown (hts (.constant RX4 56 (-1000000002)) (List.mem_of_getElem? (i := 2) rfl)) dX4_drift_22 ?_
    exact W.iret (v := (-1000000002 : Int32)) hx hb hr (fun t ht hW => ⟨⟨(-1000000002 : Int32), (x, wn, wa, w0, w1, rd, wr, z, jj, lt), rfl, (by first | exact ⟨by rw [driF, if_pos (fun q => dr_nx1 c2 q.2.1)]; exact hRX, by rw [driA, if_pos (fun q => dr_nx1 c2 q.2.1)]⟩ | exact ⟨by rw [driF, if_pos (fun q => (show ¬ inR a 25 = true from dr_nx2 (n := 24) (by omega) (Or.inl c8)) q.1)]; exact hRX, by rw [driA, if_pos (fun q => (show ¬ inR a 25 = true from dr_nx2 (n := 24) (by omega) (Or.inl c8)) q.1)]⟩ | exact ⟨by rw [driF, if_pos (fun q => dr_nx1 c13 q.2.2.2)]; exact hRX, by rw [driA, if_pos (fun q => dr_nx1 c13 q.2.2.2)]⟩ | exact ⟨by rw [driF, if_pos (fun q => (show ¬ inR b 1000000 = true from dr_nx2 (n := 999999) (by omega) (Or.inr c19)) q.2.2.1)]; exact hRX, by rw [driA, if_pos (fun q => (show ¬ inR b 1000000 = true from dr_nx2 (n := 999999) (by omega) (Or.inr c19)) q.2.2.1)]⟩), show PP G (xw G h x wn wa w0 w1 rd wr z jj lt) t.heap by rw [ht]; exact hP⟩, hS.F ht⟩) hS.2.2 dX4_drift_24
  · skip
    refine lv_iload_n hx hb dX4_drift_5 rfl (lv_at hl 1 rfl) ?_
    refine lv_bipush (v := nI 24) hx hb dX4_drift_6 (by decide) ?_
    refine lv_icmp_gt (tgt := 22) hx hb dX4_drift_8 (by decide) (fun c8 => ?_) (fun c8 => ?_)
    · skip
      refine lv_ldc (v := (-1000000002 : Int32)) hx hb hown (hts (.constant RX4 56 (-1000000002)) (List.mem_of_getElem? (i := 2) rfl)) dX4_drift_22 ?_
      exact W.iret (v := (-1000000002 : Int32)) hx hb hr (fun t ht hW => ⟨⟨(-1000000002 : Int32), (x, wn, wa, w0, w1, rd, wr, z, jj, lt), rfl, (by first | exact ⟨by rw [driF, if_pos (fun q => dr_nx1 c2 q.2.1)]; exact hRX, by rw [driA, if_pos (fun q => dr_nx1 c2 q.2.1)]⟩ | exact ⟨by rw [driF, if_pos (fun q => (show ¬ inR a 25 = true from dr_nx2 (n := 24) (by omega) (Or.inl c8)) q.1)]; exact hRX, by rw [driA, if_pos (fun q => (show ¬ inR a 25 = true from dr_nx2 (n := 24) (by omega) (Or.inl c8)) q.1)]⟩ | exact ⟨by rw [driF, if_pos (fun q => dr_nx1 c13 q.2.2.2)]; exact hRX, by rw [driA, if_pos (fun q => dr_nx1 c13 q.2.2.2)]⟩ | exact ⟨by rw [driF, if_pos (fun q => (show ¬ inR b 1000000 = true from dr_nx2 (n := 999999) (by omega) (Or.inr c19)) q.2.2.1)]; exact hRX, by rw [driA, if_pos (fun q => (show ¬ inR b 1000000 = true from dr_nx2 (n := 999999) (by omega) (Or.inr c19)) q.2.2.1)]⟩), show PP G (xw G h x wn wa w0 w1 rd wr z jj lt) t.heap by rw [ht]; exact hP⟩, hS.F ht⟩) hS.2.2 dX4_drift_24
    · skip
      obtain ⟨a1, ha1, ha2, rfl⟩ := dr_y1 (n := 24) (by omega) c2 c8
      refine lv_iload_n hx hb dX4_drift_11 rfl (lv_at hl 2 rfl) ?_
      refine lv_iconst (v := nI 1) hx hb dX4_drift_12 (by decide) ?_
      refine lv_icmp_lt (tgt := 22) hx hb dX4_drift_13 (by decide) (fun c13 => ?_) (fun c13 => ?_)
      · skip
        refine lv_ldc (v := (-1000000002 : Int32)) hx hb hown (hts (.constant RX4 56 (-1000000002)) (List.mem_of_getElem? (i := 2) rfl)) dX4_drift_22 ?_
        exact W.iret (v := (-1000000002 : Int32)) hx hb hr (fun t ht hW => ⟨⟨(-1000000002 : Int32), (x, wn, wa, w0, w1, rd, wr, z, jj, lt), rfl, (by first | exact ⟨by rw [driF, if_pos (fun q => dr_nx1 c2 q.2.1)]; exact hRX, by rw [driA, if_pos (fun q => dr_nx1 c2 q.2.1)]⟩ | exact ⟨by rw [driF, if_pos (fun q => (show ¬ inR a 25 = true from dr_nx2 (n := 24) (by omega) (Or.inl c8)) q.1)]; exact hRX, by rw [driA, if_pos (fun q => (show ¬ inR a 25 = true from dr_nx2 (n := 24) (by omega) (Or.inl c8)) q.1)]⟩ | exact ⟨by rw [driF, if_pos (fun q => dr_nx1 c13 q.2.2.2)]; exact hRX, by rw [driA, if_pos (fun q => dr_nx1 c13 q.2.2.2)]⟩ | exact ⟨by rw [driF, if_pos (fun q => (show ¬ inR b 1000000 = true from dr_nx2 (n := 999999) (by omega) (Or.inr c19)) q.2.2.1)]; exact hRX, by rw [driA, if_pos (fun q => (show ¬ inR b 1000000 = true from dr_nx2 (n := 999999) (by omega) (Or.inr c19)) q.2.2.1)]⟩), show PP G (xw G h x wn wa w0 w1 rd wr z jj lt) t.heap by rw [ht]; exact hP⟩, hS.F ht⟩) hS.2.2 dX4_drift_24
      · skip
        refine lv_iload_n hx hb dX4_drift_16 rfl (lv_at hl 2 rfl) ?_
        refine lv_ldc (v := (999999 : Int32)) hx hb hown (hts (.constant RX4 186 (999999)) (List.mem_of_getElem? (i := 1) rfl)) dX4_drift_17 ?_
        refine lv_icmp_le (tgt := 25) hx hb dX4_drift_19 (by decide) (fun c19 => ?_) (fun c19 => ?_)
        · skip
          obtain ⟨bs, hb1, hb2, rfl⟩ := dr_y2 (n := 999999) (by omega) c13 c19
          refine lv_aload_n hx hb dX4_drift_25 rfl (lv_at hl 0 rfl) ?_
          refine va_get (D := gD G) (ci := 4) (v := .int (x.1 7)) (C := RX4) (T := TX4) (N := 9) hx hb hts hiX4 hown hK hP 0 (xp_0 _ _ _ _ _ _ _ _ _ _ _ _) rfl 7 (by decide) k48 (fun _ h9 => h9) rfl dX4_drift_26 ?_
          refine topE hRX.2.1 ?_
          refine lv_if_ne (tgt := 42) hx hb dX4_drift_29 (by decide) (fun c29 => ?_) (fun c29 => ?_)
          · skip
            have n29 : ¬ ((sg.1 8) = 0) := fun q9 => c29 ((nI_eq (a := sg.1 8) (b := 0) (by omega) (by omega)).mpr q9)
            refine lv_ldc (v := (-1000000003 : Int32)) hx hb hown (hts (.constant RX4 148 (-1000000003)) (List.mem_of_getElem? (i := 5) rfl)) dX4_drift_42 ?_
            exact W.iret (v := (-1000000003 : Int32)) hx hb hr (fun t ht hW => ⟨⟨(-1000000003 : Int32), (x, wn, wa, w0, w1, rd, wr, z, jj, lt), rfl, (by first | exact ⟨by rw [driF, if_neg (not_not_intro ⟨inR_t (by omega) (by omega), nI_p0 (by omega) (by omega), inR_t' (by omega) (by omega), nI_p0 (by omega) (by omega)⟩), if_pos (Or.inl n29)]; exact hRX, by rw [driA, if_neg (not_not_intro ⟨inR_t (by omega) (by omega), nI_p0 (by omega) (by omega), inR_t' (by omega) (by omega), nI_p0 (by omega) (by omega)⟩), if_pos (Or.inl n29)]⟩ | exact ⟨by rw [driF, if_neg (not_not_intro ⟨inR_t (by omega) (by omega), nI_p0 (by omega) (by omega), inR_t' (by omega) (by omega), nI_p0 (by omega) (by omega)⟩), if_pos (Or.inr n39)]; exact hRX, by rw [driA, if_neg (not_not_intro ⟨inR_t (by omega) (by omega), nI_p0 (by omega) (by omega), inR_t' (by omega) (by omega), nI_p0 (by omega) (by omega)⟩), if_pos (Or.inr n39)]⟩), show PP G (xw G h x wn wa w0 w1 rd wr z jj lt) t.heap by rw [ht]; exact hP⟩, hS.F ht⟩) hS.2.2 dX4_drift_44
          · skip
            have n29 : (sg.1 8) = 0 := (nI_eq (a := sg.1 8) (b := 0) (by omega) (by omega)).mp c29
            refine lv_aload_n hx hb dX4_drift_32 rfl (lv_at hl 0 rfl) ?_
            refine va_get (D := gD G) (ci := 4) (v := .ref (h 10)) (C := RX4) (T := TX4) (N := 9) hx hb hts hiX4 hown hK hP 0 (xp_0 _ _ _ _ _ _ _ _ _ _ _ _) rfl 0 (by decide) k10 (fun _ h9 => h9) rfl dX4_drift_33 ?_
            refine va_getN (D := gD G) (ci := 3) (v := .int (wn.1 0)) (C := RX3) (T := TX3) (N := 9) hx hb hts hiX3 hown hK hP 3 (xp_3 _ _ _ _ _ _ _ _ _ _ _ _) rfl 0 (by decide) k82 (fun _ h9 => h9) rfl dX4_drift_36 ?_
            refine topE hC.1 ?_
            refine lv_if_ne (tgt := 45) hx hb dX4_drift_39 (by decide) (fun c39 => ?_) (fun c39 => ?_)
            · skip
              have n39 : ¬ ((sg.1 0) = 0) := fun q9 => c39 ((nI_eq (a := sg.1 0) (b := 0) (by omega) (by omega)).mpr q9)
              refine lv_aload_n hx hb dX4_drift_45 rfl (lv_at hl 0 rfl) ?_
              refine va_get (D := gD G) (ci := 4) (v := .ref (h 80)) (C := RX4) (T := TX4) (N := 9) hx hb hts hiX4 hown hK hP 0 (xp_0 _ _ _ _ _ _ _ _ _ _ _ _) rfl 6 (by decide) k44 (fun _ h9 => h9) rfl dX4_drift_46 ?_
              refine lv_iload_n hx hb dX4_drift_49 rfl (lv_at hl 2 rfl) ?_
              refine cWv (As := [.int (nI bs)]) (rest := []) (S := Int64) (wa := xw G h x wn wa w0 w1 rd wr z jj lt) (wc := tv G (fun k => h (80 + k)) lt) (w1 := fun v => tv G (fun k => h (80 + k)) v) (wa' := fun v => xw G h x wn wa w0 w1 rd wr z jj v) ⟨hx, hb, hml, hown, hts⟩ (mt_X0_startF l G (fun k => h (80 + k)) _ lt bs (by first | assumption | omega)) (cwV 1 hts gX4_drift_X0_start rfl rfl rfl ⟨rfl, hd_X0_start⟩ ⟨Nat.le_of_ble_eq_true rfl, Nat.le_of_ble_eq_true rfl⟩) hK hN hP hD hS hA [54] (xc_t _ _ _ _ _ _ _ _ _ _ _ _) (by decide) (xf_t _ _ _ _ _ _ _ _ _ _ _ _) (fun _ => rfl) (fun v => xo_t _ _ _ _ _ _ _ _ _ _ _ _ v) (fun v => xm_t _ _ _ _ _ _ _ _ _ _ _ _ v) 0 0 rfl rfl rfl hl.1 rfl (Nat.le_of_ble_eq_true rfl) ⟨Nat.zero_le _, Nat.zero_le _⟩ dX4_drift_50 (fun u50 H locs hw50 hP hD hS => ?_)
              obtain rfl := hw50
              have hP : PP G (xw G h x wn wa w0 w1 rd wr z jj (lN bs)) H := hP
              have hD : va_D A (xw G h x wn wa w0 w1 rd wr z jj (lN bs)) := hD
              refine lv_iconst (v := nI 1) hx hb dX4_drift_53 (by decide) ?_
              refine lv_istore_n (lv' := [(3, .int (nI 1)), (0, .ref (h 0)), (1, .int (nI a1)), (2, .int (nI bs))]) hx hb dX4_drift_54 rfl hl (by decide) rfl (fun ls hl => ?_)
              refine lv_iconst (v := nI 0) hx hb dX4_drift_55 (by decide) ?_
              refine lv_istore (lv' := [(4, .int (nI 0)), (3, .int (nI 1)), (0, .ref (h 0)), (1, .int (nI a1)), (2, .int (nI bs))]) hx hb dX4_drift_56 hl (by decide) rfl (fun ls hl => ?_)
              have LP58 : ∀ (n58m : Nat), ∀ (k : Nat) (gg : Int32) (pw : oS) (tt : pS) (y : Nat) (bb : Bool) (hI5 : IS tt) (hR5 : CW pw tt (tt.1 0)) (ho5 : tt.1 8 = 0) (hv0 : 0 < tt.1 0) (hyy : y < 2147483647) (hgg : gg = (if bb = true then 1 else 0)) (hk : k ≤ a1) (hs5 : (sVers (a1 - k) (tt, y, bb)).1 = (sVers a1 (sg, bs, true)).1), (a1 - k < n58m) → ∀ (H : Heap) (locs : List Loc) (ls : Array Slot), PP G (xw G h x pw wa w0 w1 rd wr z jj (lN y)) H → va_D A (xw G h x pw wa w0 w1 rd wr z jj (lN y)) → va_S A s.heap H locs → lv_has ls 5 [(0, .ref (h 0)), (1, .int (nI a1)), (3, .int gg), (4, .int (nI k))] → W p l e (headSpec wsX4_drift ({ frames := 6, cells := 0, slots := 0, locals := 141 })).room s m ([.ref (h 0), .int (nI a1), .int (nI bs)] : List Value).toArray below meth c H locs 0 0 (MQ below (va_Qi (fun (r : Int32) (v : oS × oS × oS × oS × oS × oS × oS × oS × (Nat → Nat → Int64) × Int64) => RpX v (driF sg (nI a1) (nI bs)) (zz) ∧ r = driA sg (nI a1) (nI bs)) (fun v t => PP G (xw G h v.1 v.2.1 v.2.2.1 v.2.2.2.1 v.2.2.2.2.1 v.2.2.2.2.2.1 v.2.2.2.2.2.2.1 v.2.2.2.2.2.2.2.1 v.2.2.2.2.2.2.2.2.1 v.2.2.2.2.2.2.2.2.2) t.heap) A) ([.ref (h 0), .int (nI a1), .int (nI bs)] : List Value).toArray s 0 0 A) (F0 m 58 ls []) := by
                intro n58m
                induction n58m with
                | zero => intro k gg pw tt y bb hI5 hR5 ho5 hv0 hyy hgg hk hs5 hmu H locs ls hP hD hS hl; exact absurd hmu (Nat.not_lt_zero _)
                | succ n58m ih58 =>
                  intro k gg pw tt y bb hI5 hR5 ho5 hv0 hyy hgg hk hs5 hmu H locs ls hP hD hS hl
                  refine lv_iload hx hb dX4_drift_58 (lv_at hl 3 rfl) ?_
                  refine lv_iload_n hx hb dX4_drift_60 rfl (lv_at hl 1 rfl) ?_
                  refine lv_icmp_ge (tgt := 79) hx hb dX4_drift_61 (by decide) (fun c61 => ?_) (fun c61 => ?_)
                  · skip
                    have n61 : a1 ≤ k := (nI_leI (a := a1) (b := k) (by omega) (by omega)).mp c61
                    have hfin : (sVers a1 (sg, bs, true)).1 = tt := by first | exact hs5.symm.trans (congrArg (fun n => (sVers n (tt, y, bb)).1) (show a1 - k = 0 by omega)) | exact hs5.symm.trans (congrArg Prod.fst (sVers_e (fun q => hbb q.1)))
                    have hst : stD sg tt := by have q9 := stD_vers a1 (sg, bs, true); rw [hfin] at q9; exact q9
                    refine lv_aload_n hx hb dX4_drift_79 rfl (lv_at hl 0 rfl) ?_
                    refine va_get (D := gD G) (ci := 4) (v := .ref (h 10)) (C := RX4) (T := TX4) (N := 9) hx hb hts hiX4 hown hK hP 0 (xp_0 _ _ _ _ _ _ _ _ _ _ _ _) rfl 0 (by decide) k10 (fun _ h9 => h9) rfl dX4_drift_80 ?_
                    refine va_getN (D := gD G) (ci := 3) (v := .int (pw.1 0)) (C := RX3) (T := TX3) (N := 9) hx hb hts hiX3 hown hK hP 3 (xp_3 _ _ _ _ _ _ _ _ _ _ _ _) rfl 0 (by decide) k82 (fun _ h9 => h9) rfl dX4_drift_83 ?_
                    refine topE hR5.1 ?_
                    exact W.iret (v := nI (tt.1 0)) hx hb hr (fun t ht hW => ⟨⟨nI (tt.1 0), (x, pw, wa, w0, w1, rd, wr, z, jj, lN y), rfl, ⟨by rw [driF, if_neg (not_not_intro ⟨inR_t (by omega) (by omega), nI_p0 (by omega) (by omega), inR_t' (by omega) (by omega), nI_p0 (by omega) (by omega)⟩), if_neg (show ¬ (¬ sg.1 8 = 0 ∨ sg.1 0 = 0) by omega), vN_n (j := a1) (by omega), vN_n' (j := bs) (by omega), sDrift, hfin]; exact RepX_dri hRX hst (by omega) ho5 hR5, by rw [driA, if_neg (not_not_intro ⟨inR_t (by omega) (by omega), nI_p0 (by omega) (by omega), inR_t' (by omega) (by omega), nI_p0 (by omega) (by omega)⟩), if_neg (show ¬ (¬ sg.1 8 = 0 ∨ sg.1 0 = 0) by omega), vN_n (j := a1) (by omega), vN_n' (j := bs) (by omega), sDrift, hfin]⟩, show PP G (xw G h x pw wa w0 w1 rd wr z jj (lN y)) t.heap by rw [ht]; exact hP⟩, hS.F ht⟩) hS.2.2 dX4_drift_86
                  · skip
                    have n61 : ¬ (a1 ≤ k) := fun q9 => c61 ((nI_leI (a := a1) (b := k) (by omega) (by omega)).mpr q9)
                    refine lv_iload_n hx hb dX4_drift_64 rfl (lv_at hl 2 rfl) ?_
                    refine lv_if_eq (tgt := 79) hx hb dX4_drift_65 (by decide) (fun c65 => ?_) (fun c65 => ?_)
                    · skip
                      have hbb : ¬ bb = true := by cases bb; decide; exact absurd (hgg.symm.trans c65) (by decide)
                      have hfin : (sVers a1 (sg, bs, true)).1 = tt := by first | exact hs5.symm.trans (congrArg (fun n => (sVers n (tt, y, bb)).1) (show a1 - k = 0 by omega)) | exact hs5.symm.trans (congrArg Prod.fst (sVers_e (fun q => hbb q.1)))
                      have hst : stD sg tt := by have q9 := stD_vers a1 (sg, bs, true); rw [hfin] at q9; exact q9
                      refine lv_aload_n hx hb dX4_drift_79 rfl (lv_at hl 0 rfl) ?_
                      refine va_get (D := gD G) (ci := 4) (v := .ref (h 10)) (C := RX4) (T := TX4) (N := 9) hx hb hts hiX4 hown hK hP 0 (xp_0 _ _ _ _ _ _ _ _ _ _ _ _) rfl 0 (by decide) k10 (fun _ h9 => h9) rfl dX4_drift_80 ?_
                      refine va_getN (D := gD G) (ci := 3) (v := .int (pw.1 0)) (C := RX3) (T := TX3) (N := 9) hx hb hts hiX3 hown hK hP 3 (xp_3 _ _ _ _ _ _ _ _ _ _ _ _) rfl 0 (by decide) k82 (fun _ h9 => h9) rfl dX4_drift_83 ?_
                      refine topE hR5.1 ?_
                      exact W.iret (v := nI (tt.1 0)) hx hb hr (fun t ht hW => ⟨⟨nI (tt.1 0), (x, pw, wa, w0, w1, rd, wr, z, jj, lN y), rfl, ⟨by rw [driF, if_neg (not_not_intro ⟨inR_t (by omega) (by omega), nI_p0 (by omega) (by omega), inR_t' (by omega) (by omega), nI_p0 (by omega) (by omega)⟩), if_neg (show ¬ (¬ sg.1 8 = 0 ∨ sg.1 0 = 0) by omega), vN_n (j := a1) (by omega), vN_n' (j := bs) (by omega), sDrift, hfin]; exact RepX_dri hRX hst (by omega) ho5 hR5, by rw [driA, if_neg (not_not_intro ⟨inR_t (by omega) (by omega), nI_p0 (by omega) (by omega), inR_t' (by omega) (by omega), nI_p0 (by omega) (by omega)⟩), if_neg (show ¬ (¬ sg.1 8 = 0 ∨ sg.1 0 = 0) by omega), vN_n (j := a1) (by omega), vN_n' (j := bs) (by omega), sDrift, hfin]⟩, show PP G (xw G h x pw wa w0 w1 rd wr z jj (lN y)) t.heap by rw [ht]; exact hP⟩, hS.F ht⟩) hS.2.2 dX4_drift_86
                    · skip
                      have hbb : bb = true := by cases bb; (exact absurd (hgg.trans rfl) c65); rfl
                      refine lv_aload_n hx hb dX4_drift_68 rfl (lv_at hl 0 rfl) ?_
                      refine cXi (As := []) (rest := []) (S := oS × oS × oS × oS × oS × oS × oS × oS × (Nat → Nat → Int64) × Int64) (wa := xw G h x pw wa w0 w1 rd wr z jj (lN y)) (w1 := fun v => xw G h v.1 v.2.1 v.2.2.1 v.2.2.2.1 v.2.2.2.2.1 v.2.2.2.2.2.1 v.2.2.2.2.2.2.1 v.2.2.2.2.2.2.2.1 v.2.2.2.2.2.2.2.2.1 v.2.2.2.2.2.2.2.2.2) ⟨hx, hb, hml, hown, hts⟩ (mt_X4_driftOneVersionF l G h _ x pw wa w0 w1 rd wr z jj (lN y) tt y (hI5) (ho5) (hv0) (hR5) (rfl) (hyy)) (cwV 0 hts gX4_drift_X4_driftOneVersion rfl rfl rfl ⟨rfl, hd_X4_driftOneVersion⟩ ⟨Nat.le_of_ble_eq_true rfl, Nat.le_of_ble_eq_true rfl⟩) hK hN hP hD hS hA (fun v => xm_x _ _ _ _ _ _ _ _ _ _ _ _ v) 0 4 rfl rfl rfl hl.1 rfl (Nat.le_of_ble_eq_true rfl) ⟨Nat.zero_le _, Nat.zero_le _⟩ dX4_drift_69 (fun r69 u69 H locs hw69 hP hD hS => ?_)
                      rcases hw69 with ⟨h2469, rfl, rfl⟩ | ⟨h2469, w69, t69, rfl, et69, hR69, er69⟩
                      · skip
                        have hP : PP G (xw G h x pw wa w0 w1 rd wr z jj (lN y)) H := hP
                        have hD : va_D A (xw G h x pw wa w0 w1 rd wr z jj (lN y)) := hD
                        refine lv_istore_n (lv' := [(3, .int (0 : Int32)), (0, .ref (h 0)), (1, .int (nI a1)), (4, .int (nI k))]) hx hb dX4_drift_72 rfl hl (by decide) rfl (fun ls hl => ?_)
                        refine lv_iinc (v := nI (k + 1)) (lv' := [(4, .int (nI (k + 1))), (3, .int (0 : Int32)), (0, .ref (h 0)), (1, .int (nI a1))]) hx hb dX4_drift_73 hl (k := 3) rfl (nI_1 k) (by decide) rfl (fun ls hl => ?_)
                        refine lv_goto (tgt := 58) hx hb dX4_drift_76 (by decide) ?_
                        exact ih58 (k + 1) (0 : Int32) pw tt y false (hI5) (hR5) (ho5) (hv0) (hyy) (rfl) (by first | assumption | omega) (((congrArg Prod.fst (sVers_e (k := a1 - (k + 1)) (t := (tt, y, false)) (fun q => absurd (show false = true from q.1) (by decide)))).trans (congrArg Prod.fst (sVers_e (k := a1 - k) (t := (tt, y, bb)) (fun q => absurd (show tt.1 0 < 24 from q.2) (by omega)))).symm).trans hs5) (by omega) _ _ ls hP hD hS (lv_sub hl [2, 3, 1, 0] rfl)
                      · skip
                        have hP : PP G (xw G h x w69 wa w0 w1 rd wr z jj (lN t69.2.1)) H := hP
                        have hD : va_D A (xw G h x w69 wa w0 w1 rd wr z jj (lN t69.2.1)) := hD
                        refine lv_istore_n (lv' := [(3, .int r69), (0, .ref (h 0)), (1, .int (nI a1)), (4, .int (nI k))]) hx hb dX4_drift_72 rfl hl (by decide) rfl (fun ls hl => ?_)
                        refine lv_iinc (v := nI (k + 1)) (lv' := [(4, .int (nI (k + 1))), (3, .int r69), (0, .ref (h 0)), (1, .int (nI a1))]) hx hb dX4_drift_73 hl (k := 3) rfl (nI_1 k) (by decide) rfl (fun ls hl => ?_)
                        refine lv_goto (tgt := 58) hx hb dX4_drift_76 (by decide) ?_
                        exact ih58 (k + 1) r69 w69 t69.1 t69.2.1 t69.2.2 ((by rw [et69]; exact (sVer_I (t := (tt, y, true)) hI5 ho5 hv0 h2469).1)) (hR69) ((by rw [et69]; exact (sVer_I (t := (tt, y, true)) hI5 ho5 hv0 h2469).2.1)) ((by rw [et69, (sVer_I (t := (tt, y, true)) hI5 ho5 hv0 h2469).2.2.1]; omega)) ((by rw [et69]; exact (sVer_I (t := (tt, y, true)) hI5 ho5 hv0 h2469).2.2.2)) (er69) (by first | assumption | omega) ((congrArg Prod.fst ((congrArg (sVers (a1 - (k + 1))) (show (t69.1, t69.2.1, t69.2.2) = sVer (tt, y, bb) from (by rw [hbb]; exact et69))).trans ((sVers_s (t := (tt, y, bb)) ⟨hbb, h2469⟩).symm.trans (congrArg (fun n => sVers n (tt, y, bb)) (show a1 - (k + 1) + 1 = a1 - k by omega))))).trans hs5) (by omega) _ _ ls hP hD hS (lv_sub hl [2, 3, 1, 0] rfl)
              exact LP58 (a1 - 0 + 1) 0 (nI 1) wn sg bs true (hIS) ((by have q9 := hC; rw [show sg.1 8 = 0 by omega] at q9; exact q9)) (by omega) (by omega) (by omega) (rfl) (by first | assumption | omega) (rfl) (Nat.lt_succ_self _) _ _ ls hP hD hS (lv_sub hl [2, 3, 1, 0] rfl)
            · skip
              have n39 : (sg.1 0) = 0 := (nI_eq (a := sg.1 0) (b := 0) (by omega) (by omega)).mp c39
              refine lv_ldc (v := (-1000000003 : Int32)) hx hb hown (hts (.constant RX4 148 (-1000000003)) (List.mem_of_getElem? (i := 5) rfl)) dX4_drift_42 ?_
              exact W.iret (v := (-1000000003 : Int32)) hx hb hr (fun t ht hW => ⟨⟨(-1000000003 : Int32), (x, wn, wa, w0, w1, rd, wr, z, jj, lt), rfl, (by first | exact ⟨by rw [driF, if_neg (not_not_intro ⟨inR_t (by omega) (by omega), nI_p0 (by omega) (by omega), inR_t' (by omega) (by omega), nI_p0 (by omega) (by omega)⟩), if_pos (Or.inl n29)]; exact hRX, by rw [driA, if_neg (not_not_intro ⟨inR_t (by omega) (by omega), nI_p0 (by omega) (by omega), inR_t' (by omega) (by omega), nI_p0 (by omega) (by omega)⟩), if_pos (Or.inl n29)]⟩ | exact ⟨by rw [driF, if_neg (not_not_intro ⟨inR_t (by omega) (by omega), nI_p0 (by omega) (by omega), inR_t' (by omega) (by omega), nI_p0 (by omega) (by omega)⟩), if_pos (Or.inr n39)]; exact hRX, by rw [driA, if_neg (not_not_intro ⟨inR_t (by omega) (by omega), nI_p0 (by omega) (by omega), inR_t' (by omega) (by omega), nI_p0 (by omega) (by omega)⟩), if_pos (Or.inr n39)]⟩), show PP G (xw G h x wn wa w0 w1 rd wr z jj lt) t.heap by rw [ht]; exact hP⟩, hS.F ht⟩) hS.2.2 dX4_drift_44
        · skip
          refine lv_ldc (v := (-1000000002 : Int32)) hx hb hown (hts (.constant RX4 56 (-1000000002)) (List.mem_of_getElem? (i := 2) rfl)) dX4_drift_22 ?_
          exact W.iret (v := (-1000000002 : Int32)) hx hb hr (fun t ht hW => ⟨⟨(-1000000002 : Int32), (x, wn, wa, w0, w1, rd, wr, z, jj, lt), rfl, (by first | exact ⟨by rw [driF, if_pos (fun q => dr_nx1 c2 q.2.1)]; exact hRX, by rw [driA, if_pos (fun q => dr_nx1 c2 q.2.1)]⟩ | exact ⟨by rw [driF, if_pos (fun q => (show ¬ inR a 25 = true from dr_nx2 (n := 24) (by omega) (Or.inl c8)) q.1)]; exact hRX, by rw [driA, if_pos (fun q => (show ¬ inR a 25 = true from dr_nx2 (n := 24) (by omega) (Or.inl c8)) q.1)]⟩ | exact ⟨by rw [driF, if_pos (fun q => dr_nx1 c13 q.2.2.2)]; exact hRX, by rw [driA, if_pos (fun q => dr_nx1 c13 q.2.2.2)]⟩ | exact ⟨by rw [driF, if_pos (fun q => (show ¬ inR b 1000000 = true from dr_nx2 (n := 999999) (by omega) (Or.inr c19)) q.2.2.1)]; exact hRX, by rw [driA, if_pos (fun q => (show ¬ inR b 1000000 = true from dr_nx2 (n := 999999) (by omega) (Or.inr c19)) q.2.2.1)]⟩), show PP G (xw G h x wn wa w0 w1 rd wr z jj lt) t.heap by rw [ht]; exact hP⟩, hS.F ht⟩) hS.2.2 dX4_drift_24
