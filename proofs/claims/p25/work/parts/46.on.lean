/-! numbers of sheets that change; films -/
section SHS
variable {u z : oS} {sj ss : Nat → Int64} {jj jk : Nat → Nat → Int64} {s : pS} {zz : Nat → Nat → Int64}
theorem IS.s41 (h : IS s) {j : Nat} (hj : j < 4) : s.1 (50 + j) ≤ 41 := h.2.2.2.2.2.2.2.2.2.2 j hj
theorem ShM_set {js ji : Nat} {x : Int64} (h : ShM u sj s zz) (hI : IS s) (hj : js < 4) (hi : ji < 40) : ShM u (vp_updL sj (40 * js + ji) x) s (fun j k => if j = js ∧ k = ji then x else zz j k) := by
  refine ShM_num h (fun a k ha h0 hk e => ?_)
  have := hI.s41 ha
  show vp_updL sj (40 * js + ji) x (40 * a + k) = if a = js ∧ k = ji then x else zz a k
  by_cases q : a = js ∧ k = ji
  · rw [if_pos q, q.1, q.2]; exact pk_uLs
  · rw [if_neg q, pk_uLn (by omega)]; exact e
theorem ShX_set {js ji : Nat} {x : Int64} (h : ShX z jj s zz) : ShX z (va_up jj js (vp_updL (jj js) ji x)) s (fun j k => if j = js ∧ k = ji then x else zz j k) := by
  refine ShX_num h (fun a k ha h0 hk e => ?_)
  show (if a = js then vp_updL (jj js) ji x else jj a) k = if a = js ∧ k = ji then x else zz a k
  by_cases q : a = js
  · subst q
    rw [if_pos rfl]
    by_cases q2 : k = ji
    · rw [if_pos ⟨rfl, q2⟩, q2]; exact pk_uLs
    · rw [if_neg (fun q3 => q2 q3.2), pk_uLn q2]; exact e
  · rw [if_neg q, if_neg (fun q3 => q q3.1)]; exact e
theorem filM_s {b k : Nat} {P : Nat → Int64} {x : Int64} (h : ∀ q, ss q = if b ≤ q ∧ q < b + k then P (q - b) else sj q) (hx : x = P k) : ∀ q, vp_updL ss (b + k) x q = if b ≤ q ∧ q < b + (k + 1) then P (q - b) else sj q := by
  intro q
  by_cases e : q = b + k
  · subst e
    rw [pk_uLs, if_pos (by omega), hx]
    congr 1
    omega
  · rw [pk_uLn e, h q]
    by_cases e2 : b ≤ q ∧ q < b + k
    · rw [if_pos e2, if_pos (by omega)]
    · rw [if_neg e2, if_neg (by omega)]
theorem ShM_fil {v js ji n : Nat} (h : ShM u sj s zz) (hI : IS s) (hj : js < 4) (hn : ji + n ≤ 40) (hs : ∀ q, ss q = if 40 * js + ji ≤ q ∧ q < 40 * js + ji + n then (fun n => picS s (fndN (sdS s (cvS s v)) (s.1 4) n)) (q - (40 * js + ji)) else sj q) : ShM u ss s (filB s zz v js ji n) := by
  refine ShM_num h (fun a k ha h0 hk e => ?_)
  have := hI.s41 ha
  rw [hs]
  unfold filB
  by_cases q : a = js ∧ ji ≤ k ∧ k < ji + n
  · obtain ⟨rfl, q2, q3⟩ := q
    rw [if_pos (by omega), if_pos ⟨rfl, q2, q3⟩]
    show picS s (fndN (sdS s (cvS s v)) (s.1 4) (40 * a + k - (40 * a + ji))) = _
    rw [show 40 * a + k - (40 * a + ji) = k - ji by omega]
  · rw [if_neg q, if_neg (by omega)]; exact e
theorem filX_s {js b k : Nat} {P : Nat → Int64} {x : Int64} (h : ∀ a q, jk a q = if a = js ∧ b ≤ q ∧ q < b + k then P (q - b) else jj a q) (hx : x = P k) : ∀ a q, va_up jk js (vp_updL (jk js) (b + k) x) a q = if a = js ∧ b ≤ q ∧ q < b + (k + 1) then P (q - b) else jj a q := by
  intro a q
  show (if a = js then vp_updL (jk js) (b + k) x else jk a) q = _
  by_cases e0 : a = js
  · subst e0
    rw [if_pos rfl]
    by_cases e : q = b + k
    · subst e
      rw [pk_uLs, if_pos (by omega), hx]
      congr 1
      omega
    · rw [pk_uLn e, h a q]
      by_cases e2 : b ≤ q ∧ q < b + k
      · rw [if_pos ⟨rfl, e2⟩, if_pos (by omega)]
      · rw [if_neg (fun q3 => e2 q3.2), if_neg (by omega)]
  · rw [if_neg e0, h a q, if_neg (fun q3 => e0 q3.1), if_neg (fun q3 => e0 q3.1)]
theorem filX_t {js b k pp n : Nat} {P : Nat → Int64} {x : Int64} (hp : pp = b + k) (hn : n = k + 1) (h : ∀ a q, jk a q = if a = js ∧ b ≤ q ∧ q < b + k then P (q - b) else jj a q) (hx : x = P k) : ∀ a q, va_up jk js (vp_updL (jk js) pp x) a q = if a = js ∧ b ≤ q ∧ q < b + n then P (q - b) else jj a q := by
  subst hp
  subst hn
  exact filX_s h hx
theorem ShX_fil {v js ji n : Nat} (h : ShX z jj s zz) (hs : ∀ a q, jk a q = if a = js ∧ ji ≤ q ∧ q < ji + n then (fun n => picS s (fndN (sdS s (cvS s v)) (s.1 4) n)) (q - ji) else jj a q) : ShX z jk s (filB s zz v js ji n) := by
  refine ShX_num h (fun a k ha h0 hk e => ?_)
  rw [hs]
  unfold filB
  by_cases q : a = js ∧ ji ≤ k ∧ k < ji + n
  · rw [if_pos q, if_pos q]
  · rw [if_neg q, if_neg q]; exact e
theorem fndMv (h : RepM u sj s zz) (hI : IS s) {v i q : Nat} (hv : v < s.1 0) (hi : i < s.1 4) (hp : sdb (u.2 6) (u.2 7) (chV (u.2 1) (u.2 2) (u.2 3) (nI v)) i = true) (hq : cnt (sdb (u.2 6) (u.2 7) (chV (u.2 1) (u.2 2) (u.2 3) (nI v))) i = q) : fndN (sdS s (cvS s v)) (s.1 4) q = i := by
  rw [← h.1.cv hI.ic (show v < s.1 0 + s.1 8 by omega), ← fndN_c _ _ (h.1.sd _)]
  exact fndN_hit hp hq hi
theorem picM (h : RepM u sj s zz) (hI : IS s) {i : Nat} (hi : i < s.1 4) : (u.2 5 i).toInt64 + 256 * (u.2 6 i).toInt64 + 65536 * (lifF (fun v => sdb (u.2 6) (u.2 7) (chV (u.2 1) (u.2 2) (u.2 3) (nI v)) i) (s.1 0)).toInt64 = picS s i := by
  unfold picS
  rw [h.1.2.2.2.2.2.1 i hi, h.1.2.2.2.2.2.2.1 i hi]
  congr 3
  exact lifF_c _ (fun v hv => by rw [h.1.cv hI.ic (show v < s.1 0 + s.1 8 by omega)]; exact h.1.sd _ i hi)
theorem isf_t {v j p n : Nat} (h1 : nlS s (cvS s v) = n) (h : ∀ k, k < n → zz j (p + k) &&& 255 = (s.2 5 (fndN (sdS s (cvS s v)) (s.1 4) k)).toInt64) : isfB s zz v j p n = true := and_tt (decide_eq_true h1) (allB_t (fun k hk => decide_eq_true (h k hk)))
theorem isf_f1 {v j p n : Nat} (h1 : ¬ nlS s (cvS s v) = n) : isfB s zz v j p n = false := and_f1 (decide_eq_false h1)
theorem isf_f2 {v j p n k : Nat} (hk : k < n) (h : ¬ zz j (p + k) &&& 255 = (s.2 5 (fndN (sdS s (cvS s v)) (s.1 4) k)).toInt64) : isfB s zz v j p n = false := and_f2 (allB_f (k := k) (decide_eq_false h) hk)
end SHS

set_option maxHeartbeats 1000000 in
set_option maxRecDepth 100000 in
theorem mt_X5_sheetS (l : Launch) (G : gG) (h : Nat → Nat) (sz : Nat) (u : oS) (lt : Int64) (sj : Nat → Int64) (sg : pS) (zz : Nat → Nat → Int64) (s1 : Int32) (n1 : Int32) (nh : Nat) (hI : MIx u (sg.1 0) (sg.1 4) (sg.1 10) nh) (hIS : IS sg) (hRM : RepM u sj sg zz) : Met l yX5_sheet wsX5_sheet ({ frames := 2, cells := 0, slots := 0, locals := 45 }) (preW G (mw G h u lt sj) sz [.ref (h 0), .int s1, .int n1]) (va_Qi (fun (r : Int32) (v : oS × Int64 × (Nat → Int64)) => RepM v.1 v.2.2 (sheF sg s1 n1) (sheZ zz s1 n1) ∧ r = sheA s1 n1) (fun v t => PP G (mw G h v.1 v.2.1 v.2.2) t.heap) (va_A (mw G h u lt sj) sz)) 0 0 (va_A (mw G h u lt sj) sz) := by
  refine Met.ofW (cc := cX5_sheet) (maxL := 4) (ret := (some .int)) (by decide) rfl ?_
  intro p e s m args below meth c s₁ B hml hv
  obtain ⟨ha, hsz, hP, hK, hN, hD0⟩ := hv
  subst ha
  have hx := B.exec
  have hb := B.bytes
  have hr := B.returns
  have hts := atoms_spec (ws := wsX5_sheet) B.pre
  have hown : s.vm.findClass RX5 = some m.cls := findClass_of_methodNamed B.named
  have hlocks := B.notSynchronized
  subst hsz
  have hD := hD0.self (sz := s.heap.size)
  generalize hAe : va_A (mw G h u lt sj) s.heap.size = A at hD ⊢
  have hA : ∀ q : Nat, s.heap.size ≤ q → A q := fun q h => by rw [← hAe]; exact Or.inr h
  clear hAe hD0
  have hS : va_S A s.heap s.heap [] := va_S.rf
  have hiX5 : ∀ w ∈ wsX50, w ∈ wsX5_sheet := fun w h9 => List.mem_cons_of_mem _ (List.mem_append_right _ (h9))
  have k72 := hts (.fieldLink RX5 72 "WovenHistoryModel" "isThere" "[Z") (List.mem_of_getElem? (i := 4) rfl)
  have k75 := hts (.fieldLink RX5 75 "WovenHistoryModel" "sizes" "[I") (List.mem_of_getElem? (i := 5) rfl)
  have k78 := hts (.fieldLink RX5 78 "WovenHistoryModel" "sheets" "[J") (List.mem_of_getElem? (i := 6) rfl)
  have hl := lv_entry ([.ref (h 0), .int s1, .int n1]) (n := 4) (Nat.le_of_ble_eq_true rfl)
  rw [lg_entry_eq]
  generalize (lg_sl ([.ref (h 0), .int s1, .int n1]) ++ List.replicate (4 - (lg_sl ([.ref (h 0), .int s1, .int n1])).length) Slot.unset).toArray = ls at hl ⊢
  have hl : lv_has ls 4 [(0, .ref (h 0)), (1, .int s1), (2, .int n1)] := hl
  have hC := hRM.1
  have hic := hIS.ic
  have hle8 := hIS.2.2.1
  have h8e := hRM.2.1
  have hI0 := hI
  obtain ⟨hnv, hnl, hnt, hnh, hnv24, hnl120, hnt240, hnh120, hop, hopn, hparV, hsz4, himg⟩ := hI
  refine lv_iload_n hx hb dX5_sheet_0 rfl (lv_at hl 1 rfl) ?_
  refine cSi (As := [.int s1]) (rest := []) ⟨hx, hb, hml, hown, hts⟩ (mt_X5_isSheet l s1) (va_cwS 1 hts gX5_sheet_X5_isSheet rfl rfl rfl hd_X5_isSheet ⟨Nat.le_of_ble_eq_true rfl, Nat.le_of_ble_eq_true rfl⟩) rfl hl.1 rfl (Nat.le_of_ble_eq_true rfl) ⟨Nat.zero_le _, Nat.zero_le _⟩ dX5_sheet_1 (fun r1 hw1 => ?_)
  rcases hw1 with ⟨rfl, j1, hj1, rfl⟩ | ⟨rfl, hn1⟩
  · skip
    refine lv_if_ne (tgt := 10) hx hb dX5_sheet_4 (by decide) (fun _ => ?_) (fun c9 => absurd c9 (by decide))
    refine lv_iload_n hx hb dX5_sheet_10 rfl (lv_at hl 2 rfl) ?_
    refine lv_i2l (v := n1.toInt64) hx hb dX5_sheet_11 rfl ?_
    refine lv_lconst (v := 0) hx hb dX5_sheet_12 (by decide) ?_
    refine lv_ldc2 (v := 40) hx hb hown (hts (.constantLong RX5 281 (40)) (List.mem_of_getElem? (i := 2) rfl)) dX5_sheet_13 ?_
    refine cSi (As := [.long n1.toInt64, .long 0, .long 40]) (rest := []) ⟨hx, hb, hml, hown, hts⟩ (mt_X5_in l n1.toInt64 0 40) (va_cwS 3 hts gX5_sheet_X5_in rfl rfl rfl hd_X5_in ⟨Nat.le_of_ble_eq_true rfl, Nat.le_of_ble_eq_true rfl⟩) rfl hl.1 rfl (Nat.le_of_ble_eq_true rfl) ⟨Nat.zero_le _, Nat.zero_le _⟩ dX5_sheet_16 (fun r16 hw16 => ?_)
    rcases hw16 with ⟨rfl, ha16, hb16⟩ | ⟨rfl, hn16⟩
    · skip
      obtain ⟨n2, hn2a, hn2, rfl⟩ := rng_y (a := 0) (b := 40) (by decide) (by decide) (by omega) ha16 hb16
      refine lv_if_ne (tgt := 25) hx hb dX5_sheet_19 (by decide) (fun _ => ?_) (fun c9 => absurd c9 (by decide))
      refine lv_aload_n hx hb dX5_sheet_25 rfl (lv_at hl 0 rfl) ?_
      refine va_get (D := gD G) (ci := 5) (v := .ref (h 32)) (C := RX5) (T := TX5) (N := 38) hx hb hts hiX5 hown hK hP 0 rfl rfl 32 (by decide) k72 (fun _ h9 => h9) rfl dX5_sheet_26 ?_
      refine lv_iload_n hx hb dX5_sheet_29 rfl (lv_at hl 1 rfl) ?_
      refine lv_iconst (v := nI 1) hx hb dX5_sheet_30 (by decide) ?_
      refine zastN (f := u.2 32) (n := 4) (k := j1) hx hb hK hP hD hS 20 rfl rfl (by omega) (Or.inr rfl) dX5_sheet_31 (fun H locs hP hD hS => ?_)
      have hP : PP G (mw G h (oA u 32 (upd (u.2 32) j1 (nI 1))) lt sj) H := hP
      have hD : va_D A (mw G h (oA u 32 (upd (u.2 32) j1 (nI 1))) lt sj) := hD
      refine lv_aload_n hx hb dX5_sheet_32 rfl (lv_at hl 0 rfl) ?_
      refine va_get (D := gD G) (ci := 5) (v := .ref (h 33)) (C := RX5) (T := TX5) (N := 38) hx hb hts hiX5 hown hK hP 0 rfl rfl 33 (by decide) k75 (fun _ h9 => h9) rfl dX5_sheet_33 ?_
      refine lv_iload_n hx hb dX5_sheet_36 rfl (lv_at hl 1 rfl) ?_
      refine lv_iload_n hx hb dX5_sheet_37 rfl (lv_at hl 2 rfl) ?_
      refine iastN (f := (oA u 32 (upd (u.2 32) j1 (nI 1))).2 33) (n := 4) (k := j1) hx hb hK hP hD hS 21 rfl rfl (by omega) dX5_sheet_38 (fun H locs hP hD hS => ?_)
      have hP : PP G (mw G h (oA (oA u 32 (upd (u.2 32) j1 (nI 1))) 33 (upd ((oA u 32 (upd (u.2 32) j1 (nI 1))).2 33) j1 (nI n2))) lt sj) H := hP
      have hD : va_D A (mw G h (oA (oA u 32 (upd (u.2 32) j1 (nI 1))) 33 (upd ((oA u 32 (upd (u.2 32) j1 (nI 1))).2 33) j1 (nI n2))) lt sj) := hD
      refine lv_iconst (v := nI 0) hx hb dX5_sheet_39 (by decide) ?_
      refine lv_istore_n (lv' := [(3, .int (nI 0)), (0, .ref (h 0)), (1, .int (nI j1)), (2, .int (nI n2))]) hx hb dX5_sheet_40 rfl hl (by decide) rfl (fun ls hl => ?_)
      have LP41 : ∀ (n41m : Nat), ∀ (k : Nat) (ss : Nat → Int64) (hk : k ≤ n2) (hs0 : ∀ q, q < k → ss (40 * j1 + q) = 0) (hs1 : ∀ q, (q < 40 * j1 ∨ 40 * j1 + k ≤ q) → ss q = sj q), (n2 - k < n41m) → ∀ (H : Heap) (locs : List Loc) (ls : Array Slot), PP G (mw G h (oA (oA u 32 (upd (u.2 32) j1 (nI 1))) 33 (upd ((oA u 32 (upd (u.2 32) j1 (nI 1))).2 33) j1 (nI n2))) lt ss) H → va_D A (mw G h (oA (oA u 32 (upd (u.2 32) j1 (nI 1))) 33 (upd ((oA u 32 (upd (u.2 32) j1 (nI 1))).2 33) j1 (nI n2))) lt ss) → va_S A s.heap H locs → lv_has ls 4 [(0, .ref (h 0)), (1, .int (nI j1)), (2, .int (nI n2)), (3, .int (nI k))] → W p l e (headSpec wsX5_sheet ({ frames := 2, cells := 0, slots := 0, locals := 45 })).room s m ([.ref (h 0), .int (nI j1), .int (nI n2)] : List Value).toArray below meth c H locs 0 0 (MQ below (va_Qi (fun (r : Int32) (v : oS × Int64 × (Nat → Int64)) => RepM v.1 v.2.2 (sheF sg (nI j1) (nI n2)) (sheZ zz (nI j1) (nI n2)) ∧ r = sheA (nI j1) (nI n2)) (fun v t => PP G (mw G h v.1 v.2.1 v.2.2) t.heap) A) ([.ref (h 0), .int (nI j1), .int (nI n2)] : List Value).toArray s 0 0 A) (F0 m 41 ls []) := by
        intro n41m
        induction n41m with
        | zero => intro k ss hk hs0 hs1 hmu H locs ls hP hD hS hl; exact absurd hmu (Nat.not_lt_zero _)
        | succ n41m ih41 =>
          intro k ss hk hs0 hs1 hmu H locs ls hP hD hS hl
          refine lv_iload_n hx hb dX5_sheet_41 rfl (lv_at hl 3 rfl) ?_
          refine lv_iload_n hx hb dX5_sheet_42 rfl (lv_at hl 2 rfl) ?_
          refine lv_icmp_ge (tgt := 64) hx hb dX5_sheet_43 (by decide) (fun c43 => ?_) (fun c43 => ?_)
          · skip
            have n43 : n2 ≤ k := (nI_leI (a := n2) (b := k) (by omega) (by omega)).mp c43
            refine lv_iload_n hx hb dX5_sheet_64 rfl (lv_at hl 2 rfl) ?_
            exact W.iret (v := nI n2) hx hb hr (fun t ht hW => ⟨⟨nI n2, (oA (oA u 32 (upd (u.2 32) j1 (nI 1))) 33 (upd ((oA u 32 (upd (u.2 32) j1 (nI 1))).2 33) j1 (nI n2)), lt, ss), rfl, ⟨by rw [sheF, sheZ, if_neg (not_not_intro (inR_t hj1 (by omega))), if_neg (not_not_intro (inR_t hj1 (by omega))), if_neg (show ¬ ¬ inR (nI n2) 41 = true from not_not_intro (inR_t (by omega) (by omega))), if_neg (show ¬ ¬ inR (nI n2) 41 = true from not_not_intro (inR_t (by omega) (by omega))), vN_n (j := j1) (by omega), vN_n (j := n2) (by omega)]; exact RepM_sh hRM (ShM_lay hRM.2.2.2.2.2.2.2.2.2 hIS hj1 hn2 (fun q h9 => hs0 q (by omega)) (fun q h9 => hs1 q (by omega))) hj1, by rw [sheA, if_neg (not_not_intro (inR_t hj1 (by omega))), if_neg (show ¬ ¬ inR (nI n2) 41 = true from not_not_intro (inR_t (by omega) (by omega)))]⟩, show PP G (mw G h (oA (oA u 32 (upd (u.2 32) j1 (nI 1))) 33 (upd ((oA u 32 (upd (u.2 32) j1 (nI 1))).2 33) j1 (nI n2))) lt ss) t.heap by rw [ht]; exact hP⟩, hS.F ht⟩) hS.2.2 dX5_sheet_65
          · skip
            have n43 : ¬ (n2 ≤ k) := fun q9 => c43 ((nI_leI (a := n2) (b := k) (by omega) (by omega)).mpr q9)
            refine lv_aload_n hx hb dX5_sheet_46 rfl (lv_at hl 0 rfl) ?_
            refine va_get (D := gD G) (ci := 5) (v := .ref (h 34)) (C := RX5) (T := TX5) (N := 38) hx hb hts hiX5 hown hK hP 0 rfl rfl 34 (by decide) k78 (fun _ h9 => h9) rfl dX5_sheet_47 ?_
            refine lv_bipush (v := nI 40) hx hb dX5_sheet_50 (by decide) ?_
            refine lv_iload_n hx hb dX5_sheet_52 rfl (lv_at hl 1 rfl) ?_
            refine lv_imul hx hb dX5_sheet_53 ?_
            refine topE (y := nI (40 * j1)) (pk_mul 40 j1) ?_
            refine lv_iload_n hx hb dX5_sheet_54 rfl (lv_at hl 3 rfl) ?_
            refine lv_iadd hx hb dX5_sheet_55 ?_
            refine topE (y := nI ((40 * j1) + k)) (nI_add (40 * j1) k) ?_
            refine lv_lconst (v := 0) hx hb dX5_sheet_56 (by decide) ?_
            refine lastN (f := ss) (n := 160) (k := (40 * j1) + k) hx hb hK hP hD hS 22 rfl rfl (by omega) dX5_sheet_57 (fun H locs hP hD hS => ?_)
            have hP : PP G (mw G h (oA (oA u 32 (upd (u.2 32) j1 (nI 1))) 33 (upd ((oA u 32 (upd (u.2 32) j1 (nI 1))).2 33) j1 (nI n2))) lt (vp_updL ss ((40 * j1) + k) 0)) H := hP
            have hD : va_D A (mw G h (oA (oA u 32 (upd (u.2 32) j1 (nI 1))) 33 (upd ((oA u 32 (upd (u.2 32) j1 (nI 1))).2 33) j1 (nI n2))) lt (vp_updL ss ((40 * j1) + k) 0)) := hD
            refine lv_iinc (v := nI (k + 1)) (lv' := [(3, .int (nI (k + 1))), (0, .ref (h 0)), (1, .int (nI j1)), (2, .int (nI n2))]) hx hb dX5_sheet_58 hl (k := 3) rfl (nI_1 k) (by decide) rfl (fun ls hl => ?_)
            refine lv_goto (tgt := 41) hx hb dX5_sheet_61 (by decide) ?_
            exact ih41 (k + 1) (vp_updL ss ((40 * j1) + k) 0) (by first | assumption | omega) (fun q h9 => by by_cases e9 : q = k; (rw [e9]; exact pk_uLs); (rw [pk_uLn (by omega)]; exact hs0 q (by omega))) (fun q h9 => by rw [pk_uLn (by omega)]; exact hs1 q (by omega)) (by omega) _ _ ls hP hD hS (lv_sub hl [1, 2, 3, 0] rfl)
      exact LP41 (n2 - 0 + 1) 0 sj (by first | assumption | omega) (fun q h9 => absurd h9 (Nat.not_lt_zero q)) (fun _ _ => rfl) (Nat.lt_succ_self _) _ _ ls hP hD hS (lv_sub hl [1, 2, 3, 0] rfl)
    · skip
      refine lv_if_ne (tgt := 25) hx hb dX5_sheet_19 (by decide) (fun c9 => absurd (by decide) c9) (fun _ => ?_)
      refine lv_ldc (v := (-1000000002 : Int32)) hx hb hown (hts (.constant RX5 100 (-1000000002)) (List.mem_of_getElem? (i := 3) rfl)) dX5_sheet_22 ?_
      exact W.iret (v := (-1000000002 : Int32)) hx hb hr (fun t ht hW => ⟨⟨(-1000000002 : Int32), (u, lt, sj), rfl, ⟨by rw [sheF, sheZ, if_neg (not_not_intro (inR_t hj1 (by omega))), if_neg (not_not_intro (inR_t hj1 (by omega))), if_pos (show ¬ inR n1 41 = true from rg64_n (b := 40) (by decide) (by decide) hn16), if_pos (show ¬ inR n1 41 = true from rg64_n (b := 40) (by decide) (by decide) hn16)]; exact hRM, by rw [sheA, if_neg (not_not_intro (inR_t hj1 (by omega))), if_pos (show ¬ inR n1 41 = true from rg64_n (b := 40) (by decide) (by decide) hn16)]⟩, show PP G (mw G h u lt sj) t.heap by rw [ht]; exact hP⟩, hS.F ht⟩) hS.2.2 dX5_sheet_24
  · skip
    refine lv_if_ne (tgt := 10) hx hb dX5_sheet_4 (by decide) (fun c9 => absurd (by decide) c9) (fun _ => ?_)
    refine lv_ldc (v := (-1000000001 : Int32)) hx hb hown (hts (.constant RX5 216 (-1000000001)) (List.mem_of_getElem? (i := 1) rfl)) dX5_sheet_7 ?_
    exact W.iret (v := (-1000000001 : Int32)) hx hb hr (fun t ht hW => ⟨⟨(-1000000001 : Int32), (u, lt, sj), rfl, ⟨by rw [sheF, sheZ, if_pos (inR_f (by omega) hn1), if_pos (inR_f (by omega) hn1)]; exact hRM, by rw [sheA, if_pos (inR_f (by omega) hn1)]⟩, show PP G (mw G h u lt sj) t.heap by rw [ht]; exact hP⟩, hS.F ht⟩) hS.2.2 dX5_sheet_9
set_option maxHeartbeats 1000000 in
set_option maxRecDepth 100000 in
theorem mt_X5_setS (l : Launch) (G : gG) (h : Nat → Nat) (sz : Nat) (u : oS) (lt : Int64) (sj : Nat → Int64) (sg : pS) (zz : Nat → Nat → Int64) (s1 : Int32) (i1 : Int32) (x : Int64) (nh : Nat) (hI : MIx u (sg.1 0) (sg.1 4) (sg.1 10) nh) (hIS : IS sg) (hRM : RepM u sj sg zz) : Met l yX5_set wsX5_set ({ frames := 3, cells := 0, slots := 0, locals := 68 }) (preW G (mw G h u lt sj) sz [.ref (h 0), .int s1, .int i1, .long x]) (va_Ql (fun (r : Int64) (v : oS × Int64 × (Nat → Int64)) => RepM v.1 v.2.2 (sg) (setZ sg zz s1 i1 x) ∧ r = getA sg zz s1 i1) (fun v t => PP G (mw G h v.1 v.2.1 v.2.2) t.heap) (va_A (mw G h u lt sj) sz)) 0 0 (va_A (mw G h u lt sj) sz) := by
  refine Met.ofW (cc := cX5_set) (maxL := 8) (ret := (some .long)) (by decide) rfl ?_
  intro p e s m args below meth c s₁ B hml hv
  obtain ⟨ha, hsz, hP, hK, hN, hD0⟩ := hv
  subst ha
  have hx := B.exec
  have hb := B.bytes
  have hr := B.returns
  have hts := atoms_spec (ws := wsX5_set) B.pre
  have hown : s.vm.findClass RX5 = some m.cls := findClass_of_methodNamed B.named
  have hlocks := B.notSynchronized
  subst hsz
  have hD := hD0.self (sz := s.heap.size)
  generalize hAe : va_A (mw G h u lt sj) s.heap.size = A at hD ⊢
  have hA : ∀ q : Nat, s.heap.size ≤ q → A q := fun q h => by rw [← hAe]; exact Or.inr h
  clear hAe hD0
  have hS : va_S A s.heap s.heap [] := va_S.rf
  have hiX5 : ∀ w ∈ wsX50, w ∈ wsX5_set := fun w h9 => List.mem_cons_of_mem _ (List.mem_append_right _ (h9))
  have k78 := hts (.fieldLink RX5 78 "WovenHistoryModel" "sheets" "[J") (List.mem_of_getElem? (i := 1) rfl)
  have hl := lv_entry ([.ref (h 0), .int s1, .int i1, .long x]) (n := 8) (Nat.le_of_ble_eq_true rfl)
  rw [lg_entry_eq]
  generalize (lg_sl ([.ref (h 0), .int s1, .int i1, .long x]) ++ List.replicate (8 - (lg_sl ([.ref (h 0), .int s1, .int i1, .long x])).length) Slot.unset).toArray = ls at hl ⊢
  have hl : lv_has ls 8 [(0, .ref (h 0)), (1, .int s1), (2, .int i1), (3, .long x)] := hl
  have hC := hRM.1
  have hic := hIS.ic
  have hle8 := hIS.2.2.1
  have h8e := hRM.2.1
  have hI0 := hI
  obtain ⟨hnv, hnl, hnt, hnh, hnv24, hnl120, hnt240, hnh120, hop, hopn, hparV, hsz4, himg⟩ := hI
  refine lv_aload_n hx hb dX5_set_0 rfl (lv_at hl 0 rfl) ?_
  refine lv_iload_n hx hb dX5_set_1 rfl (lv_at hl 1 rfl) ?_
  refine lv_iload_n hx hb dX5_set_2 rfl (lv_at hl 2 rfl) ?_
  refine lv_iconst (v := nI 1) hx hb dX5_set_3 (by decide) ?_
  refine cRi (w := mw G h u lt sj) (As := [.int s1, .int i1, .int (nI 1)]) (rest := []) ⟨hx, hb, hml, hown, hts⟩ (mt_X5_refused l G h u lt sj s1 i1 1 (by first | assumption | omega) (by first | assumption | omega)) (cwV 3 hts gX5_set_X5_refused rfl rfl rfl ⟨rfl, hd_X5_refused⟩ ⟨Nat.le_of_ble_eq_true rfl, Nat.le_of_ble_eq_true rfl⟩) hK hN hP 0 5 rfl rfl rfl hl.1 rfl (Nat.le_of_ble_eq_true rfl) ⟨Nat.zero_le _, Nat.zero_le _⟩ dX5_set_4 (fun r4 hw4 => ?_)
  rcases hw4 with ⟨rfl, js4, ji4, z4, hjs4, rfl, hth4, hz4, ez4, rfl, hji4⟩ | ⟨rfl, hnu4⟩ | ⟨rfl, js4, hjs4, ejs4, hth4⟩ | ⟨rfl, js4, z4, hjs4, ejs4, hth4, hz4, ez4, hpl4⟩
  · skip
    obtain ⟨hzs, hzv⟩ := ShM.sz hRM.2.2.2.2.2.2.2.2.2 hIS hjs4 hth4 hz4 ez4
    have hE : refS sg (nI js4) (nI ji4) (1) = 0 := ref_ok hjs4 hzs hz4 hji4
    refine lv_istore (lv' := [(5, .int (0 : Int32)), (0, .ref (h 0)), (1, .int (nI js4)), (2, .int (nI ji4)), (3, .long x)]) hx hb dX5_set_7 hl (by decide) rfl (fun ls hl => ?_)
    refine lv_iload hx hb dX5_set_9 (lv_at hl 0 rfl) ?_
    refine lv_if_eq (tgt := 18) hx hb dX5_set_11 (by decide) (fun _ => ?_) (fun c9 => absurd (by decide) c9)
    refine lv_aload_n hx hb dX5_set_18 rfl (lv_at hl 1 rfl) ?_
    refine va_get (D := gD G) (ci := 5) (v := .ref (h 34)) (C := RX5) (T := TX5) (N := 38) hx hb hts hiX5 hown hK hP 0 rfl rfl 34 (by decide) k78 (fun _ h9 => h9) rfl dX5_set_19 ?_
    refine lv_bipush (v := nI 40) hx hb dX5_set_22 (by decide) ?_
    refine lv_iload_n hx hb dX5_set_24 rfl (lv_at hl 2 rfl) ?_
    refine lv_imul hx hb dX5_set_25 ?_
    refine topE (y := nI (40 * js4)) (pk_mul 40 js4) ?_
    refine lv_iload_n hx hb dX5_set_26 rfl (lv_at hl 3 rfl) ?_
    refine lv_iadd hx hb dX5_set_27 ?_
    refine topE (y := nI ((40 * js4) + ji4)) (nI_add (40 * js4) ji4) ?_
    refine laldN (f := sj) (n := 160) (k := (40 * js4) + ji4) hx hb hK hP 22 rfl rfl (by omega) dX5_set_28 ?_
    refine lv_lstore (lv' := [(6, .long (sj ((40 * js4) + ji4))), (5, .int (0 : Int32)), (0, .ref (h 0)), (1, .int (nI js4)), (2, .int (nI ji4)), (3, .long x)]) hx hb dX5_set_29 hl (by decide) rfl (fun ls hl => ?_)
    refine lv_aload_n hx hb dX5_set_31 rfl (lv_at hl 2 rfl) ?_
    refine va_get (D := gD G) (ci := 5) (v := .ref (h 34)) (C := RX5) (T := TX5) (N := 38) hx hb hts hiX5 hown hK hP 0 rfl rfl 34 (by decide) k78 (fun _ h9 => h9) rfl dX5_set_32 ?_
    refine lv_bipush (v := nI 40) hx hb dX5_set_35 (by decide) ?_
    refine lv_iload_n hx hb dX5_set_37 rfl (lv_at hl 3 rfl) ?_
    refine lv_imul hx hb dX5_set_38 ?_
    refine topE (y := nI (40 * js4)) (pk_mul 40 js4) ?_
    refine lv_iload_n hx hb dX5_set_39 rfl (lv_at hl 4 rfl) ?_
    refine lv_iadd hx hb dX5_set_40 ?_
    refine topE (y := nI ((40 * js4) + ji4)) (nI_add (40 * js4) ji4) ?_
    refine lv_lload_n hx hb dX5_set_41 rfl (lv_at hl 5 rfl) ?_
    refine lastN (f := sj) (n := 160) (k := (40 * js4) + ji4) hx hb hK hP hD hS 22 rfl rfl (by omega) dX5_set_42 (fun H locs hP hD hS => ?_)
    have hP : PP G (mw G h u lt (vp_updL sj ((40 * js4) + ji4) x)) H := hP
    have hD : va_D A (mw G h u lt (vp_updL sj ((40 * js4) + ji4) x)) := hD
    refine lv_lload hx hb dX5_set_43 (lv_at hl 0 rfl) ?_
    exact W.lret (v := sj ((40 * js4) + ji4)) hx hb hr (fun t ht hW => ⟨⟨sj ((40 * js4) + ji4), (u, lt, vp_updL sj ((40 * js4) + ji4) x), rfl, ⟨by rw [setZ, if_pos hE, vN_n (j := js4) (by omega), vN_n (j := ji4) (by omega)]; exact RepM_zz hRM (ShM_set hRM.2.2.2.2.2.2.2.2.2 hIS hjs4 (by omega)), by rw [getA, if_pos hE, vN_n (j := js4) (by omega), vN_n (j := ji4) (by omega)]; exact hzv ji4 (by omega)⟩, show PP G (mw G h u lt (vp_updL sj ((40 * js4) + ji4) x)) t.heap by rw [ht]; exact hP⟩, hS.F ht⟩) hS.2.2 dX5_set_45
  · skip
    have hE : refS sg s1 i1 (1) = aUNK := ref_unk hnu4
    refine lv_istore (lv' := [(5, .int (-1000000001 : Int32)), (0, .ref (h 0)), (1, .int s1), (2, .int i1), (3, .long x)]) hx hb dX5_set_7 hl (by decide) rfl (fun ls hl => ?_)
    refine lv_iload hx hb dX5_set_9 (lv_at hl 0 rfl) ?_
    refine lv_if_eq (tgt := 18) hx hb dX5_set_11 (by decide) (fun c9 => absurd c9 (by decide)) (fun _ => ?_)
    refine lv_iload hx hb dX5_set_14 (lv_at hl 0 rfl) ?_
    refine lv_i2l (v := (-1000000001 : Int32).toInt64) hx hb dX5_set_16 rfl ?_
    exact W.lret (v := (-1000000001 : Int32).toInt64) hx hb hr (fun t ht hW => ⟨⟨(-1000000001 : Int32).toInt64, (u, lt, sj), rfl, ⟨by rw [setZ, if_neg (show ¬ refS sg s1 i1 (1) = 0 from by rw [hE]; decide)]; exact hRM, by rw [getA, if_neg (show ¬ refS sg s1 i1 (1) = 0 from by rw [hE]; decide), hE]⟩, show PP G (mw G h u lt sj) t.heap by rw [ht]; exact hP⟩, hS.F ht⟩) hS.2.2 dX5_set_17
  · skip
    have hE : refS sg s1 i1 (1) = aNULL := by rw [ejs4]; exact ref_nul hjs4 (ShM.no hRM.2.2.2.2.2.2.2.2.2 hjs4 hth4)
    refine lv_istore (lv' := [(5, .int (-1000000011 : Int32)), (0, .ref (h 0)), (1, .int s1), (2, .int i1), (3, .long x)]) hx hb dX5_set_7 hl (by decide) rfl (fun ls hl => ?_)
    refine lv_iload hx hb dX5_set_9 (lv_at hl 0 rfl) ?_
    refine lv_if_eq (tgt := 18) hx hb dX5_set_11 (by decide) (fun c9 => absurd c9 (by decide)) (fun _ => ?_)
    refine lv_iload hx hb dX5_set_14 (lv_at hl 0 rfl) ?_
    refine lv_i2l (v := (-1000000011 : Int32).toInt64) hx hb dX5_set_16 rfl ?_
    exact W.lret (v := (-1000000011 : Int32).toInt64) hx hb hr (fun t ht hW => ⟨⟨(-1000000011 : Int32).toInt64, (u, lt, sj), rfl, ⟨by rw [setZ, if_neg (show ¬ refS sg s1 i1 (1) = 0 from by rw [hE]; decide)]; exact hRM, by rw [getA, if_neg (show ¬ refS sg s1 i1 (1) = 0 from by rw [hE]; decide), hE]⟩, show PP G (mw G h u lt sj) t.heap by rw [ht]; exact hP⟩, hS.F ht⟩) hS.2.2 dX5_set_17
  · skip
    have hE : refS sg s1 i1 (1) = aPLC := by rw [ejs4]; exact ref_plc hjs4 (ShM.sz hRM.2.2.2.2.2.2.2.2.2 hIS hjs4 hth4 hz4 ez4).1 hpl4
    refine lv_istore (lv' := [(5, .int (-1000000012 : Int32)), (0, .ref (h 0)), (1, .int s1), (2, .int i1), (3, .long x)]) hx hb dX5_set_7 hl (by decide) rfl (fun ls hl => ?_)
    refine lv_iload hx hb dX5_set_9 (lv_at hl 0 rfl) ?_
    refine lv_if_eq (tgt := 18) hx hb dX5_set_11 (by decide) (fun c9 => absurd c9 (by decide)) (fun _ => ?_)
    refine lv_iload hx hb dX5_set_14 (lv_at hl 0 rfl) ?_
    refine lv_i2l (v := (-1000000012 : Int32).toInt64) hx hb dX5_set_16 rfl ?_
    exact W.lret (v := (-1000000012 : Int32).toInt64) hx hb hr (fun t ht hW => ⟨⟨(-1000000012 : Int32).toInt64, (u, lt, sj), rfl, ⟨by rw [setZ, if_neg (show ¬ refS sg s1 i1 (1) = 0 from by rw [hE]; decide)]; exact hRM, by rw [getA, if_neg (show ¬ refS sg s1 i1 (1) = 0 from by rw [hE]; decide), hE]⟩, show PP G (mw G h u lt sj) t.heap by rw [ht]; exact hP⟩, hS.F ht⟩) hS.2.2 dX5_set_17
set_option maxHeartbeats 1000000 in
set_option maxRecDepth 100000 in
theorem mt_X5_getS (l : Launch) (G : gG) (h : Nat → Nat) (u : oS) (lt : Int64) (sj : Nat → Int64) (sg : pS) (zz : Nat → Nat → Int64) (s1 : Int32) (i1 : Int32) (nh : Nat) (hI : MIx u (sg.1 0) (sg.1 4) (sg.1 10) nh) (hIS : IS sg) (hRM : RepM u sj sg zz) : Met l yX5_get wsX5_get ({ frames := 3, cells := 0, slots := 0, locals := 68 }) (preR G (mw G h u lt sj) [.ref (h 0), .int s1, .int i1]) (vp_Sl (fun r : Int64 => r = getA sg zz s1 i1)) 0 0 (fun _ => False) := by
  refine Met.ofW (cc := cX5_get) (maxL := 4) (ret := (some .long)) (by decide) rfl ?_
  intro p e s m args below meth c s₁ B hml hv
  obtain ⟨ha, hP, hK, hN⟩ := hv
  subst ha
  have hx := B.exec
  have hb := B.bytes
  have hr := B.returns
  have hts := atoms_spec (ws := wsX5_get) B.pre
  have hown : s.vm.findClass RX5 = some m.cls := findClass_of_methodNamed B.named
  have hlocks := B.notSynchronized
  have hiX5 : ∀ w ∈ wsX50, w ∈ wsX5_get := fun w h9 => List.mem_cons_of_mem _ (List.mem_append_right _ (h9))
  have k78 := hts (.fieldLink RX5 78 "WovenHistoryModel" "sheets" "[J") (List.mem_of_getElem? (i := 1) rfl)
  have hl := lv_entry ([.ref (h 0), .int s1, .int i1]) (n := 4) (Nat.le_of_ble_eq_true rfl)
  rw [lg_entry_eq]
  generalize (lg_sl ([.ref (h 0), .int s1, .int i1]) ++ List.replicate (4 - (lg_sl ([.ref (h 0), .int s1, .int i1])).length) Slot.unset).toArray = ls at hl ⊢
  have hl : lv_has ls 4 [(0, .ref (h 0)), (1, .int s1), (2, .int i1)] := hl
  have hC := hRM.1
  have hic := hIS.ic
  have hle8 := hIS.2.2.1
  have h8e := hRM.2.1
  have hI0 := hI
  obtain ⟨hnv, hnl, hnt, hnh, hnv24, hnl120, hnt240, hnh120, hop, hopn, hparV, hsz4, himg⟩ := hI
  refine lv_aload_n hx hb dX5_get_0 rfl (lv_at hl 0 rfl) ?_
  refine lv_iload_n hx hb dX5_get_1 rfl (lv_at hl 1 rfl) ?_
  refine lv_iload_n hx hb dX5_get_2 rfl (lv_at hl 2 rfl) ?_
  refine lv_iconst (v := nI 1) hx hb dX5_get_3 (by decide) ?_
  refine cRi (w := mw G h u lt sj) (As := [.int s1, .int i1, .int (nI 1)]) (rest := []) ⟨hx, hb, hml, hown, hts⟩ (mt_X5_refused l G h u lt sj s1 i1 1 (by first | assumption | omega) (by first | assumption | omega)) (cwV 3 hts gX5_get_X5_refused rfl rfl rfl ⟨rfl, hd_X5_refused⟩ ⟨Nat.le_of_ble_eq_true rfl, Nat.le_of_ble_eq_true rfl⟩) hK hN hP 0 5 rfl rfl rfl hl.1 rfl (Nat.le_of_ble_eq_true rfl) ⟨Nat.zero_le _, Nat.zero_le _⟩ dX5_get_4 (fun r4 hw4 => ?_)
  rcases hw4 with ⟨rfl, js4, ji4, z4, hjs4, rfl, hth4, hz4, ez4, rfl, hji4⟩ | ⟨rfl, hnu4⟩ | ⟨rfl, js4, hjs4, ejs4, hth4⟩ | ⟨rfl, js4, z4, hjs4, ejs4, hth4, hz4, ez4, hpl4⟩
  · skip
    obtain ⟨hzs, hzv⟩ := ShM.sz hRM.2.2.2.2.2.2.2.2.2 hIS hjs4 hth4 hz4 ez4
    have hE : refS sg (nI js4) (nI ji4) (1) = 0 := ref_ok hjs4 hzs hz4 hji4
    refine lv_istore_n (lv' := [(3, .int (0 : Int32)), (0, .ref (h 0)), (1, .int (nI js4)), (2, .int (nI ji4))]) hx hb dX5_get_7 rfl hl (by decide) rfl (fun ls hl => ?_)
    refine lv_iload_n hx hb dX5_get_8 rfl (lv_at hl 0 rfl) ?_
    refine lv_if_eq (tgt := 17) hx hb dX5_get_9 (by decide) (fun _ => ?_) (fun c9 => absurd (by decide) c9)
    refine lv_aload_n hx hb dX5_get_17 rfl (lv_at hl 1 rfl) ?_
    refine va_get (D := gD G) (ci := 5) (v := .ref (h 34)) (C := RX5) (T := TX5) (N := 38) hx hb hts hiX5 hown hK hP 0 rfl rfl 34 (by decide) k78 (fun _ h9 => h9) rfl dX5_get_18 ?_
    refine lv_bipush (v := nI 40) hx hb dX5_get_21 (by decide) ?_
    refine lv_iload_n hx hb dX5_get_23 rfl (lv_at hl 2 rfl) ?_
    refine lv_imul hx hb dX5_get_24 ?_
    refine topE (y := nI (40 * js4)) (pk_mul 40 js4) ?_
    refine lv_iload_n hx hb dX5_get_25 rfl (lv_at hl 3 rfl) ?_
    refine lv_iadd hx hb dX5_get_26 ?_
    refine topE (y := nI ((40 * js4) + ji4)) (nI_add (40 * js4) ji4) ?_
    refine laldN (f := sj) (n := 160) (k := (40 * js4) + ji4) hx hb hK hP 22 rfl rfl (by omega) dX5_get_27 ?_
    exact W.lret (v := sj ((40 * js4) + ji4)) hx hb hr (fun t ht hW => ⟨sj ((40 * js4) + ji4), rfl, by rw [getA, if_pos hE, vN_n (j := js4) (by omega), vN_n (j := ji4) (by omega)]; exact hzv ji4 (by omega), ht⟩) (fun _ h9 => by cases h9) dX5_get_28
  · skip
    have hE : refS sg s1 i1 (1) = aUNK := ref_unk hnu4
    refine lv_istore_n (lv' := [(3, .int (-1000000001 : Int32)), (0, .ref (h 0)), (1, .int s1), (2, .int i1)]) hx hb dX5_get_7 rfl hl (by decide) rfl (fun ls hl => ?_)
    refine lv_iload_n hx hb dX5_get_8 rfl (lv_at hl 0 rfl) ?_
    refine lv_if_eq (tgt := 17) hx hb dX5_get_9 (by decide) (fun c9 => absurd c9 (by decide)) (fun _ => ?_)
    refine lv_iload_n hx hb dX5_get_12 rfl (lv_at hl 0 rfl) ?_
    refine lv_i2l (v := (-1000000001 : Int32).toInt64) hx hb dX5_get_13 rfl ?_
    refine lv_goto (tgt := 28) hx hb dX5_get_14 (by decide) ?_
    exact W.lret (v := (-1000000001 : Int32).toInt64) hx hb hr (fun t ht hW => ⟨(-1000000001 : Int32).toInt64, rfl, by rw [getA, if_neg (show ¬ refS sg s1 i1 (1) = 0 from by rw [hE]; decide), hE], ht⟩) (fun _ h9 => by cases h9) dX5_get_28
  · skip
    have hE : refS sg s1 i1 (1) = aNULL := by rw [ejs4]; exact ref_nul hjs4 (ShM.no hRM.2.2.2.2.2.2.2.2.2 hjs4 hth4)
    refine lv_istore_n (lv' := [(3, .int (-1000000011 : Int32)), (0, .ref (h 0)), (1, .int s1), (2, .int i1)]) hx hb dX5_get_7 rfl hl (by decide) rfl (fun ls hl => ?_)
    refine lv_iload_n hx hb dX5_get_8 rfl (lv_at hl 0 rfl) ?_
    refine lv_if_eq (tgt := 17) hx hb dX5_get_9 (by decide) (fun c9 => absurd c9 (by decide)) (fun _ => ?_)
    refine lv_iload_n hx hb dX5_get_12 rfl (lv_at hl 0 rfl) ?_
    refine lv_i2l (v := (-1000000011 : Int32).toInt64) hx hb dX5_get_13 rfl ?_
    refine lv_goto (tgt := 28) hx hb dX5_get_14 (by decide) ?_
    exact W.lret (v := (-1000000011 : Int32).toInt64) hx hb hr (fun t ht hW => ⟨(-1000000011 : Int32).toInt64, rfl, by rw [getA, if_neg (show ¬ refS sg s1 i1 (1) = 0 from by rw [hE]; decide), hE], ht⟩) (fun _ h9 => by cases h9) dX5_get_28
  · skip
    have hE : refS sg s1 i1 (1) = aPLC := by rw [ejs4]; exact ref_plc hjs4 (ShM.sz hRM.2.2.2.2.2.2.2.2.2 hIS hjs4 hth4 hz4 ez4).1 hpl4
    refine lv_istore_n (lv' := [(3, .int (-1000000012 : Int32)), (0, .ref (h 0)), (1, .int s1), (2, .int i1)]) hx hb dX5_get_7 rfl hl (by decide) rfl (fun ls hl => ?_)
    refine lv_iload_n hx hb dX5_get_8 rfl (lv_at hl 0 rfl) ?_
    refine lv_if_eq (tgt := 17) hx hb dX5_get_9 (by decide) (fun c9 => absurd c9 (by decide)) (fun _ => ?_)
    refine lv_iload_n hx hb dX5_get_12 rfl (lv_at hl 0 rfl) ?_
    refine lv_i2l (v := (-1000000012 : Int32).toInt64) hx hb dX5_get_13 rfl ?_
    refine lv_goto (tgt := 28) hx hb dX5_get_14 (by decide) ?_
    exact W.lret (v := (-1000000012 : Int32).toInt64) hx hb hr (fun t ht hW => ⟨(-1000000012 : Int32).toInt64, rfl, by rw [getA, if_neg (show ¬ refS sg s1 i1 (1) = 0 from by rw [hE]; decide), hE], ht⟩) (fun _ h9 => by cases h9) dX5_get_28
set_option maxHeartbeats 1000000 in
set_option maxRecDepth 100000 in
theorem mt_X5_dropS (l : Launch) (G : gG) (h : Nat → Nat) (sz : Nat) (u : oS) (lt : Int64) (sj : Nat → Int64) (sg : pS) (zz : Nat → Nat → Int64) (s1 : Int32) (nh : Nat) (hI : MIx u (sg.1 0) (sg.1 4) (sg.1 10) nh) (hIS : IS sg) (hRM : RepM u sj sg zz) : Met l yX5_drop wsX5_drop ({ frames := 2, cells := 0, slots := 0, locals := 45 }) (preW G (mw G h u lt sj) sz [.ref (h 0), .int s1]) (va_Qi (fun (r : Int32) (v : oS × Int64 × (Nat → Int64)) => RepM v.1 v.2.2 (droF sg s1) (zz) ∧ r = droA sg s1) (fun v t => PP G (mw G h v.1 v.2.1 v.2.2) t.heap) (va_A (mw G h u lt sj) sz)) 0 0 (va_A (mw G h u lt sj) sz) := by
  refine Met.ofW (cc := cX5_drop) (maxL := 2) (ret := (some .int)) (by decide) rfl ?_
  intro p e s m args below meth c s₁ B hml hv
  obtain ⟨ha, hsz, hP, hK, hN, hD0⟩ := hv
  subst ha
  have hx := B.exec
  have hb := B.bytes
  have hr := B.returns
  have hts := atoms_spec (ws := wsX5_drop) B.pre
  have hown : s.vm.findClass RX5 = some m.cls := findClass_of_methodNamed B.named
  have hlocks := B.notSynchronized
  subst hsz
  have hD := hD0.self (sz := s.heap.size)
  generalize hAe : va_A (mw G h u lt sj) s.heap.size = A at hD ⊢
  have hA : ∀ q : Nat, s.heap.size ≤ q → A q := fun q h => by rw [← hAe]; exact Or.inr h
  clear hAe hD0
  have hS : va_S A s.heap s.heap [] := va_S.rf
  have hiX5 : ∀ w ∈ wsX50, w ∈ wsX5_drop := fun w h9 => List.mem_cons_of_mem _ (List.mem_append_right _ (h9))
  have k72 := hts (.fieldLink RX5 72 "WovenHistoryModel" "isThere" "[Z") (List.mem_of_getElem? (i := 2) rfl)
  have k75 := hts (.fieldLink RX5 75 "WovenHistoryModel" "sizes" "[I") (List.mem_of_getElem? (i := 4) rfl)
  have hl := lv_entry ([.ref (h 0), .int s1]) (n := 2) (Nat.le_of_ble_eq_true rfl)
  rw [lg_entry_eq]
  generalize (lg_sl ([.ref (h 0), .int s1]) ++ List.replicate (2 - (lg_sl ([.ref (h 0), .int s1])).length) Slot.unset).toArray = ls at hl ⊢
  have hl : lv_has ls 2 [(0, .ref (h 0)), (1, .int s1)] := hl
  have hC := hRM.1
  have hic := hIS.ic
  have hle8 := hIS.2.2.1
  have h8e := hRM.2.1
  have hI0 := hI
  obtain ⟨hnv, hnl, hnt, hnh, hnv24, hnl120, hnt240, hnh120, hop, hopn, hparV, hsz4, himg⟩ := hI
  refine lv_iload_n hx hb dX5_drop_0 rfl (lv_at hl 1 rfl) ?_
  refine cSi (As := [.int s1]) (rest := []) ⟨hx, hb, hml, hown, hts⟩ (mt_X5_isSheet l s1) (va_cwS 1 hts gX5_drop_X5_isSheet rfl rfl rfl hd_X5_isSheet ⟨Nat.le_of_ble_eq_true rfl, Nat.le_of_ble_eq_true rfl⟩) rfl hl.1 rfl (Nat.le_of_ble_eq_true rfl) ⟨Nat.zero_le _, Nat.zero_le _⟩ dX5_drop_1 (fun r1 hw1 => ?_)
  rcases hw1 with ⟨rfl, j1, hj1, rfl⟩ | ⟨rfl, hn1⟩
  · skip
    refine lv_if_ne (tgt := 10) hx hb dX5_drop_4 (by decide) (fun _ => ?_) (fun c9 => absurd c9 (by decide))
    refine lv_aload_n hx hb dX5_drop_10 rfl (lv_at hl 0 rfl) ?_
    refine va_get (D := gD G) (ci := 5) (v := .ref (h 32)) (C := RX5) (T := TX5) (N := 38) hx hb hts hiX5 hown hK hP 0 rfl rfl 32 (by decide) k72 (fun _ h9 => h9) rfl dX5_drop_11 ?_
    refine lv_iload_n hx hb dX5_drop_14 rfl (lv_at hl 1 rfl) ?_
    refine zaldN (f := u.2 32) (n := 4) (k := j1) hx hb hK hP 20 rfl rfl (by omega) dX5_drop_15 ?_
    refine lv_if_ne (tgt := 23) hx hb dX5_drop_16 (by decide) (fun c16 => ?_) (fun c16 => ?_)
    · skip
      obtain ⟨z9, hz9, ez9⟩ := hsz4 j1 hj1
      have hzs := (ShM.sz hRM.2.2.2.2.2.2.2.2.2 hIS hj1 c16 hz9 ez9).1
      have hne : ¬ sg.1 (50 + j1) = 0 := by omega
      refine lv_aload_n hx hb dX5_drop_23 rfl (lv_at hl 0 rfl) ?_
      refine va_get (D := gD G) (ci := 5) (v := .ref (h 32)) (C := RX5) (T := TX5) (N := 38) hx hb hts hiX5 hown hK hP 0 rfl rfl 32 (by decide) k72 (fun _ h9 => h9) rfl dX5_drop_24 ?_
      refine lv_iload_n hx hb dX5_drop_27 rfl (lv_at hl 1 rfl) ?_
      refine lv_iconst (v := nI 0) hx hb dX5_drop_28 (by decide) ?_
      refine zastN (f := u.2 32) (n := 4) (k := j1) hx hb hK hP hD hS 20 rfl rfl (by omega) (Or.inl rfl) dX5_drop_29 (fun H locs hP hD hS => ?_)
      have hP : PP G (mw G h (oA u 32 (upd (u.2 32) j1 (nI 0))) lt sj) H := hP
      have hD : va_D A (mw G h (oA u 32 (upd (u.2 32) j1 (nI 0))) lt sj) := hD
      refine lv_aload_n hx hb dX5_drop_30 rfl (lv_at hl 0 rfl) ?_
      refine va_get (D := gD G) (ci := 5) (v := .ref (h 33)) (C := RX5) (T := TX5) (N := 38) hx hb hts hiX5 hown hK hP 0 rfl rfl 33 (by decide) k75 (fun _ h9 => h9) rfl dX5_drop_31 ?_
      refine lv_iload_n hx hb dX5_drop_34 rfl (lv_at hl 1 rfl) ?_
      refine ialdN (f := (oA u 32 (upd (u.2 32) j1 (nI 0))).2 33) (n := 4) (k := j1) hx hb hK hP 21 rfl rfl (by omega) dX5_drop_35 ?_
      exact W.iret (v := ((oA u 32 (upd (u.2 32) j1 (nI 0))).2 33) j1) hx hb hr (fun t ht hW => ⟨⟨((oA u 32 (upd (u.2 32) j1 (nI 0))).2 33) j1, (oA u 32 (upd (u.2 32) j1 (nI 0)), lt, sj), rfl, ⟨by rw [droF, if_neg (not_not_intro (inR_t hj1 (by omega))), vN_n (j := j1) (by omega), if_neg hne]; exact RepM_dr hRM (ShM_dro hRM.2.2.2.2.2.2.2.2.2 hIS hj1) hj1, by rw [droA, if_neg (not_not_intro (inR_t hj1 (by omega))), vN_n (j := j1) (by omega), if_neg hne]; exact ez9.trans (congrArg nI (by omega))⟩, show PP G (mw G h (oA u 32 (upd (u.2 32) j1 (nI 0))) lt sj) t.heap by rw [ht]; exact hP⟩, hS.F ht⟩) hS.2.2 dX5_drop_36
    · skip
      refine lv_ldcw (v := (-1000000011 : Int32)) hx hb hown (hts (.constant RX5 283 (-1000000011)) (List.mem_of_getElem? (i := 3) rfl)) dX5_drop_19 ?_
      exact W.iret (v := (-1000000011 : Int32)) hx hb hr (fun t ht hW => ⟨⟨(-1000000011 : Int32), (u, lt, sj), rfl, ⟨by rw [droF, if_neg (not_not_intro (inR_t hj1 (by omega))), vN_n (j := j1) (by omega), if_pos (ShM.no hRM.2.2.2.2.2.2.2.2.2 hj1 c16)]; exact hRM, by rw [droA, if_neg (not_not_intro (inR_t hj1 (by omega))), vN_n (j := j1) (by omega), if_pos (ShM.no hRM.2.2.2.2.2.2.2.2.2 hj1 c16)]⟩, show PP G (mw G h u lt sj) t.heap by rw [ht]; exact hP⟩, hS.F ht⟩) hS.2.2 dX5_drop_22
  · skip
    refine lv_if_ne (tgt := 10) hx hb dX5_drop_4 (by decide) (fun c9 => absurd (by decide) c9) (fun _ => ?_)
    refine lv_ldc (v := (-1000000001 : Int32)) hx hb hown (hts (.constant RX5 216 (-1000000001)) (List.mem_of_getElem? (i := 1) rfl)) dX5_drop_7 ?_
    exact W.iret (v := (-1000000001 : Int32)) hx hb hr (fun t ht hW => ⟨⟨(-1000000001 : Int32), (u, lt, sj), rfl, ⟨by rw [droF, if_pos (inR_f (by omega) hn1)]; exact hRM, by rw [droA, if_pos (inR_f (by omega) hn1)]⟩, show PP G (mw G h u lt sj) t.heap by rw [ht]; exact hP⟩, hS.F ht⟩) hS.2.2 dX5_drop_9
set_option maxHeartbeats 1000000 in
set_option maxRecDepth 100000 in
theorem mt_X5_filmS (l : Launch) (G : gG) (h : Nat → Nat) (sz : Nat) (u : oS) (lt : Int64) (sj : Nat → Int64) (sg : pS) (zz : Nat → Nat → Int64) (a : Int32) (s1 : Int32) (i1 : Int32) (nh : Nat) (hI : MIx u (sg.1 0) (sg.1 4) (sg.1 10) nh) (hIS : IS sg) (hRM : RepM u sj sg zz) : Met l yX5_film wsX5_film ({ frames := 3, cells := 0, slots := 0, locals := 68 }) (preW G (mw G h u lt sj) sz [.ref (h 0), .int a, .int s1, .int i1]) (va_Qi (fun (r : Int32) (v : oS × Int64 × (Nat → Int64)) => RepM v.1 v.2.2 (sg) (filZ sg zz a s1 i1) ∧ r = filA sg a s1 i1) (fun v t => PP G (mw G h v.1 v.2.1 v.2.2) t.heap) (va_A (mw G h u lt sj) sz)) 0 0 (va_A (mw G h u lt sj) sz) := by
  refine Met.ofW (cc := cX5_film) (maxL := 9) (ret := (some .int)) (by decide) rfl ?_
  intro p e s m args below meth c s₁ B hml hv
  obtain ⟨ha, hsz, hP, hK, hN, hD0⟩ := hv
  subst ha
  have hx := B.exec
  have hb := B.bytes
  have hr := B.returns
  have hts := atoms_spec (ws := wsX5_film) B.pre
  have hown : s.vm.findClass RX5 = some m.cls := findClass_of_methodNamed B.named
  have hlocks := B.notSynchronized
  subst hsz
  have hD := hD0.self (sz := s.heap.size)
  generalize hAe : va_A (mw G h u lt sj) s.heap.size = A at hD ⊢
  have hA : ∀ q : Nat, s.heap.size ≤ q → A q := fun q h => by rw [← hAe]; exact Or.inr h
  clear hAe hD0
  have hS : va_S A s.heap s.heap [] := va_S.rf
  have hiX5 : ∀ w ∈ wsX50, w ∈ wsX5_film := fun w h9 => List.mem_cons_of_mem _ (List.mem_append_right _ (h9))
  have k78 := hts (.fieldLink RX5 78 "WovenHistoryModel" "sheets" "[J") (List.mem_of_getElem? (i := 2) rfl)
  have k19 := hts (.fieldLink RX5 19 "WovenHistoryModel" "letter" "[I") (List.mem_of_getElem? (i := 3) rfl)
  have k22 := hts (.fieldLink RX5 22 "WovenHistoryModel" "brought" "[I") (List.mem_of_getElem? (i := 5) rfl)
  have hl := lv_entry ([.ref (h 0), .int a, .int s1, .int i1]) (n := 9) (Nat.le_of_ble_eq_true rfl)
  rw [lg_entry_eq]
  generalize (lg_sl ([.ref (h 0), .int a, .int s1, .int i1]) ++ List.replicate (9 - (lg_sl ([.ref (h 0), .int a, .int s1, .int i1])).length) Slot.unset).toArray = ls at hl ⊢
  have hl : lv_has ls 9 [(0, .ref (h 0)), (1, .int a), (2, .int s1), (3, .int i1)] := hl
  have hC := hRM.1
  have hic := hIS.ic
  have hle8 := hIS.2.2.1
  have h8e := hRM.2.1
  have hI0 := hI
  obtain ⟨hnv, hnl, hnt, hnh, hnv24, hnl120, hnt240, hnh120, hop, hopn, hparV, hsz4, himg⟩ := hI
  refine lv_aload_n hx hb dX5_film_0 rfl (lv_at hl 0 rfl) ?_
  refine lv_iload_n hx hb dX5_film_1 rfl (lv_at hl 1 rfl) ?_
  refine cRi (w := mw G h u lt sj) (As := [.int a]) (rest := []) ⟨hx, hb, hml, hown, hts⟩ (mt_X5_isVersion l G h u lt sj (sg.1 0) a (hnv) (by first | assumption | omega)) (cwV 1 hts gX5_film_X5_isVersion rfl rfl rfl ⟨rfl, hd_X5_isVersion⟩ ⟨Nat.le_of_ble_eq_true rfl, Nat.le_of_ble_eq_true rfl⟩) hK hN hP 0 5 rfl rfl rfl hl.1 rfl (Nat.le_of_ble_eq_true rfl) ⟨Nat.zero_le _, Nat.zero_le _⟩ dX5_film_2 (fun r2 hw2 => ?_)
  rcases hw2 with ⟨rfl, a1, ha1, rfl⟩ | ⟨rfl, hna1⟩
  · skip
    refine lv_if_eq (tgt := 15) hx hb dX5_film_5 (by decide) (fun c9 => absurd c9 (by decide)) (fun _ => ?_)
    refine lv_iload_n hx hb dX5_film_8 rfl (lv_at hl 2 rfl) ?_
    refine cSi (As := [.int s1]) (rest := []) ⟨hx, hb, hml, hown, hts⟩ (mt_X5_isSheet l s1) (va_cwS 1 hts gX5_film_X5_isSheet rfl rfl rfl hd_X5_isSheet ⟨Nat.le_of_ble_eq_true rfl, Nat.le_of_ble_eq_true rfl⟩) rfl hl.1 rfl (Nat.le_of_ble_eq_true rfl) ⟨Nat.zero_le _, Nat.zero_le _⟩ dX5_film_9 (fun r9 hw9 => ?_)
    rcases hw9 with ⟨rfl, j9, hj9, ej9⟩ | ⟨rfl, hn9⟩
    · skip
      refine lv_if_ne (tgt := 18) hx hb dX5_film_12 (by decide) (fun _ => ?_) (fun c9 => absurd c9 (by decide))
      refine lv_aload_n hx hb dX5_film_18 rfl (lv_at hl 0 rfl) ?_
      refine lv_iload_n hx hb dX5_film_19 rfl (lv_at hl 1 rfl) ?_
      have hP := mw_self26 hP
      have hD : va_D A (mw G h (oA u 26 (u.2 26)) lt sj) := mw_self26D hD
      refine cXi (As := [.int (nI a1)]) (rest := []) (S := oS × Int64 × (Nat → Int64)) (wa := mw G h (oA u 26 (u.2 26)) lt sj) (w1 := fun v => mw G h v.1 v.2.1 v.2.2) ⟨hx, hb, hml, hown, hts⟩ (mt_X5_changesOf l G h _ u lt sj (u.2 26) a1 (by first | assumption | omega) (hparV.le (by omega))) (cwV 1 hts gX5_film_X5_changesOf rfl rfl rfl ⟨rfl, hd_X5_changesOf⟩ ⟨Nat.le_of_ble_eq_true rfl, Nat.le_of_ble_eq_true rfl⟩) hK hN hP hD hS hA (fun _ => rfl) 0 5 rfl rfl rfl hl.1 rfl (Nat.le_of_ble_eq_true rfl) ⟨Nat.zero_le _, Nat.zero_le _⟩ dX5_film_20 (fun r20 u20 H locs hw20 hP hD hS => ?_)
      obtain ⟨g20, rfl, rfl⟩ := hw20
      have hP : PP G (mw G h (oA u 26 g20) lt sj) H := hP
      have hD : va_D A (mw G h (oA u 26 g20) lt sj) := hD
      refine lv_istore (lv' := [(4, .int (chV (u.2 1) (u.2 2) (u.2 3) (nI a1))), (0, .ref (h 0)), (1, .int (nI a1)), (2, .int s1), (3, .int i1)]) hx hb dX5_film_23 hl (by decide) rfl (fun ls hl => ?_)
      refine lv_aload_n hx hb dX5_film_25 rfl (lv_at hl 1 rfl) ?_
      refine lv_iload hx hb dX5_film_26 (lv_at hl 0 rfl) ?_
      refine cRi (w := mw G h (oA u 26 g20) lt sj) (As := [.int (chV (u.2 1) (u.2 2) (u.2 3) (nI a1))]) (rest := []) ⟨hx, hb, hml, hown, hts⟩ (mt_X5_manyOf l G h (oA u 26 g20) lt sj (sg.1 4) (chV (u.2 1) (u.2 2) (u.2 3) (nI a1)) (hnl) (by first | assumption | omega)) (cwV 1 hts gX5_film_X5_manyOf rfl rfl rfl ⟨rfl, hd_X5_manyOf⟩ ⟨Nat.le_of_ble_eq_true rfl, Nat.le_of_ble_eq_true rfl⟩) hK hN hP 0 5 rfl rfl rfl hl.1 rfl (Nat.le_of_ble_eq_true rfl) ⟨Nat.zero_le _, Nat.zero_le _⟩ dX5_film_28 (fun r28 hw28 => ?_)
      obtain rfl := hw28
      have hc28 := cnt_le (sdb (u.2 6) (u.2 7) (chV (u.2 1) (u.2 2) (u.2 3) (nI a1))) (sg.1 4)
      refine lv_istore (lv' := [(5, .int (nI (cnt (sdb (u.2 6) (u.2 7) (chV (u.2 1) (u.2 2) (u.2 3) (nI a1))) (sg.1 4)))), (4, .int (chV (u.2 1) (u.2 2) (u.2 3) (nI a1))), (0, .ref (h 0)), (1, .int (nI a1)), (2, .int s1), (3, .int i1)]) hx hb dX5_film_31 hl (by decide) rfl (fun ls hl => ?_)
      refine lv_aload_n hx hb dX5_film_33 rfl (lv_at hl 2 rfl) ?_
      refine lv_iload_n hx hb dX5_film_34 rfl (lv_at hl 4 rfl) ?_
      refine lv_iload_n hx hb dX5_film_35 rfl (lv_at hl 5 rfl) ?_
      refine lv_iload hx hb dX5_film_36 (lv_at hl 0 rfl) ?_
      refine cRi (w := mw G h (oA u 26 g20) lt sj) (As := [.int s1, .int i1, .int (nI (cnt (sdb (u.2 6) (u.2 7) (chV (u.2 1) (u.2 2) (u.2 3) (nI a1))) (sg.1 4)))]) (rest := []) ⟨hx, hb, hml, hown, hts⟩ (mt_X5_refused l G h (oA u 26 g20) lt sj s1 i1 (cnt (sdb (u.2 6) (u.2 7) (chV (u.2 1) (u.2 2) (u.2 3) (nI a1))) (sg.1 4)) (by first | assumption | omega) (by omega)) (cwV 3 hts gX5_film_X5_refused rfl rfl rfl ⟨rfl, hd_X5_refused⟩ ⟨Nat.le_of_ble_eq_true rfl, Nat.le_of_ble_eq_true rfl⟩) hK hN hP 0 5 rfl rfl rfl hl.1 rfl (Nat.le_of_ble_eq_true rfl) ⟨Nat.zero_le _, Nat.zero_le _⟩ dX5_film_38 (fun r38 hw38 => ?_)
      rcases hw38 with ⟨rfl, js38, ji38, z38, hjs38, rfl, hth38, hz38, ez38, rfl, hji38⟩ | ⟨rfl, hnu38⟩ | ⟨rfl, js38, hjs38, ejs38, hth38⟩ | ⟨rfl, js38, z38, hjs38, ejs38, hth38, hz38, ez38, hpl38⟩
      · skip
        obtain ⟨hzs, hzv⟩ := ShM.sz hRM.2.2.2.2.2.2.2.2.2 hIS hjs38 hth38 hz38 ez38
        have hE : refS sg (nI js38) (nI ji38) (cnt (sdb (u.2 6) (u.2 7) (chV (u.2 1) (u.2 2) (u.2 3) (nI a1))) (sg.1 4)) = 0 := ref_ok hjs38 hzs hz38 hji38
        have hct : cnt (sdb (u.2 6) (u.2 7) (chV (u.2 1) (u.2 2) (u.2 3) (nI a1))) (sg.1 4) = nlS sg (cvS sg a1) := by rw [hC.cv (i := a1) hic (by omega)]; exact hC.nl _
        rw [hct] at hE
        refine lv_istore (lv' := [(6, .int (0 : Int32)), (5, .int (nI (cnt (sdb (u.2 6) (u.2 7) (chV (u.2 1) (u.2 2) (u.2 3) (nI a1))) (sg.1 4)))), (4, .int (chV (u.2 1) (u.2 2) (u.2 3) (nI a1))), (0, .ref (h 0)), (1, .int (nI a1)), (2, .int (nI js38)), (3, .int (nI ji38))]) hx hb dX5_film_41 hl (by decide) rfl (fun ls hl => ?_)
        refine lv_iload hx hb dX5_film_43 (lv_at hl 0 rfl) ?_
        refine lv_if_eq (tgt := 51) hx hb dX5_film_45 (by decide) (fun _ => ?_) (fun c9 => absurd (by decide) c9)
        refine lv_iconst (v := nI 0) hx hb dX5_film_51 (by decide) ?_
        refine lv_istore (lv' := [(7, .int (nI 0)), (6, .int (0 : Int32)), (5, .int (nI (cnt (sdb (u.2 6) (u.2 7) (chV (u.2 1) (u.2 2) (u.2 3) (nI a1))) (sg.1 4)))), (4, .int (chV (u.2 1) (u.2 2) (u.2 3) (nI a1))), (0, .ref (h 0)), (1, .int (nI a1)), (2, .int (nI js38)), (3, .int (nI ji38))]) hx hb dX5_film_52 hl (by decide) rfl (fun ls hl => ?_)
        have LP54 : ∀ (n54m : Nat), ∀ (k : Nat) (g : Nat → Int32) (ss : Nat → Int64) (hk : k ≤ cnt (sdb (u.2 6) (u.2 7) (chV (u.2 1) (u.2 2) (u.2 3) (nI a1))) (sg.1 4)) (hss : ∀ q, ss q = if (40 * js38 + ji38) ≤ q ∧ q < (40 * js38 + ji38) + k then (fun n => picS sg (fndN (sdS sg (cvS sg a1)) (sg.1 4) n)) (q - (40 * js38 + ji38)) else sj q), (cnt (sdb (u.2 6) (u.2 7) (chV (u.2 1) (u.2 2) (u.2 3) (nI a1))) (sg.1 4) - k < n54m) → ∀ (H : Heap) (locs : List Loc) (ls : Array Slot), PP G (mw G h (oA u 26 g) lt ss) H → va_D A (mw G h (oA u 26 g) lt ss) → va_S A s.heap H locs → lv_has ls 9 [(0, .ref (h 0)), (2, .int (nI js38)), (3, .int (nI ji38)), (4, .int (chV (u.2 1) (u.2 2) (u.2 3) (nI a1))), (5, .int (nI (cnt (sdb (u.2 6) (u.2 7) (chV (u.2 1) (u.2 2) (u.2 3) (nI a1))) (sg.1 4)))), (7, .int (nI k))] → W p l e (headSpec wsX5_film ({ frames := 3, cells := 0, slots := 0, locals := 68 })).room s m ([.ref (h 0), .int (nI a1), .int (nI js38), .int (nI ji38)] : List Value).toArray below meth c H locs 0 0 (MQ below (va_Qi (fun (r : Int32) (v : oS × Int64 × (Nat → Int64)) => RepM v.1 v.2.2 (sg) (filZ sg zz (nI a1) (nI js38) (nI ji38)) ∧ r = filA sg (nI a1) (nI js38) (nI ji38)) (fun v t => PP G (mw G h v.1 v.2.1 v.2.2) t.heap) A) ([.ref (h 0), .int (nI a1), .int (nI js38), .int (nI ji38)] : List Value).toArray s 0 0 A) (F0 m 54 ls []) := by
          intro n54m
          induction n54m with
          | zero => intro k g ss hk hss hmu H locs ls hP hD hS hl; exact absurd hmu (Nat.not_lt_zero _)
          | succ n54m ih54 =>
            intro k g ss hk hss hmu H locs ls hP hD hS hl
            refine lv_iload hx hb dX5_film_54 (lv_at hl 5 rfl) ?_
            refine lv_iload hx hb dX5_film_56 (lv_at hl 4 rfl) ?_
            refine lv_icmp_ge (tgt := 124) hx hb dX5_film_58 (by decide) (fun c58 => ?_) (fun c58 => ?_)
            · skip
              have n58 : (cnt (sdb (u.2 6) (u.2 7) (chV (u.2 1) (u.2 2) (u.2 3) (nI a1))) (sg.1 4)) ≤ k := (nI_leI (a := cnt (sdb (u.2 6) (u.2 7) (chV (u.2 1) (u.2 2) (u.2 3) (nI a1))) (sg.1 4)) (b := k) (by omega) (by omega)).mp c58
              refine lv_iload hx hb dX5_film_124 (lv_at hl 4 rfl) ?_
              exact W.iret (v := nI (cnt (sdb (u.2 6) (u.2 7) (chV (u.2 1) (u.2 2) (u.2 3) (nI a1))) (sg.1 4))) hx hb hr (fun t ht hW => ⟨⟨nI (cnt (sdb (u.2 6) (u.2 7) (chV (u.2 1) (u.2 2) (u.2 3) (nI a1))) (sg.1 4)), (oA u 26 g, lt, ss), rfl, ⟨by rw [filZ, if_pos (inR_t ha1 (by omega)), vN_n (j := a1) (by omega), if_pos hE, vN_n (j := js38) (by omega), vN_n (j := ji38) (by omega)]; exact RepM_zz (RepM_26 _ hRM) (ShM_fil hRM.2.2.2.2.2.2.2.2.2 hIS hjs38 (by omega) (fun q => (hss q).trans (by rw [show k = nlS sg (cvS sg a1) by omega]))), by rw [filA, if_pos (inR_t ha1 (by omega)), vN_n (j := a1) (by omega), if_pos hE, hct]⟩, show PP G (mw G h (oA u 26 g) lt ss) t.heap by rw [ht]; exact hP⟩, hS.F ht⟩) hS.2.2 dX5_film_126
            · skip
              have n58 : ¬ ((cnt (sdb (u.2 6) (u.2 7) (chV (u.2 1) (u.2 2) (u.2 3) (nI a1))) (sg.1 4)) ≤ k) := fun q9 => c58 ((nI_leI (a := cnt (sdb (u.2 6) (u.2 7) (chV (u.2 1) (u.2 2) (u.2 3) (nI a1))) (sg.1 4)) (b := k) (by omega) (by omega)).mpr q9)
              refine lv_aload_n hx hb dX5_film_61 rfl (lv_at hl 0 rfl) ?_
              refine lv_iload hx hb dX5_film_62 (lv_at hl 3 rfl) ?_
              refine lv_iload hx hb dX5_film_64 (lv_at hl 5 rfl) ?_
              refine cRi (w := mw G h (oA u 26 g) lt ss) (As := [.int (chV (u.2 1) (u.2 2) (u.2 3) (nI a1)), .int (nI k)]) (rest := []) ⟨hx, hb, hml, hown, hts⟩ (mt_X5_lineAt l G h (oA u 26 g) lt ss (sg.1 4) (chV (u.2 1) (u.2 2) (u.2 3) (nI a1)) k (hnl) (by first | assumption | omega) (by omega)) (cwV 2 hts gX5_film_X5_lineAt rfl rfl rfl ⟨rfl, hd_X5_lineAt⟩ ⟨Nat.le_of_ble_eq_true rfl, Nat.le_of_ble_eq_true rfl⟩) hK hN hP 0 5 rfl rfl rfl hl.1 rfl (Nat.le_of_ble_eq_true rfl) ⟨Nat.zero_le _, Nat.zero_le _⟩ dX5_film_66 (fun r66 hw66 => ?_)
              rcases hw66 with ⟨i66, hi66, hp66, hq66, rfl⟩ | ⟨hq66, rfl⟩
              · skip
                have e66 : fndN (sdS sg (cvS sg a1)) (sg.1 4) k = i66 := fndMv hRM hIS ha1 hi66 hp66 hq66
                refine lv_istore (lv' := [(8, .int (nI i66)), (0, .ref (h 0)), (2, .int (nI js38)), (3, .int (nI ji38)), (4, .int (chV (u.2 1) (u.2 2) (u.2 3) (nI a1))), (5, .int (nI (cnt (sdb (u.2 6) (u.2 7) (chV (u.2 1) (u.2 2) (u.2 3) (nI a1))) (sg.1 4)))), (7, .int (nI k))]) hx hb dX5_film_69 hl (by decide) rfl (fun ls hl => ?_)
                refine lv_aload_n hx hb dX5_film_71 rfl (lv_at hl 1 rfl) ?_
                refine va_get (D := gD G) (ci := 5) (v := .ref (h 34)) (C := RX5) (T := TX5) (N := 38) hx hb hts hiX5 hown hK hP 0 rfl rfl 34 (by decide) k78 (fun _ h9 => h9) rfl dX5_film_72 ?_
                refine lv_bipush (v := nI 40) hx hb dX5_film_75 (by decide) ?_
                refine lv_iload_n hx hb dX5_film_77 rfl (lv_at hl 2 rfl) ?_
                refine lv_imul hx hb dX5_film_78 ?_
                refine topE (y := nI (40 * js38)) (pk_mul 40 js38) ?_
                refine lv_iload_n hx hb dX5_film_79 rfl (lv_at hl 3 rfl) ?_
                refine lv_iadd hx hb dX5_film_80 ?_
                refine topE (y := nI ((40 * js38) + ji38)) (nI_add (40 * js38) ji38) ?_
                refine lv_iload hx hb dX5_film_81 (lv_at hl 6 rfl) ?_
                refine lv_iadd hx hb dX5_film_83 ?_
                refine topE (y := nI (((40 * js38) + ji38) + k)) (nI_add ((40 * js38) + ji38) k) ?_
                refine lv_aload_n hx hb dX5_film_84 rfl (lv_at hl 1 rfl) ?_
                refine va_get (D := gD G) (ci := 5) (v := .ref (h 5)) (C := RX5) (T := TX5) (N := 38) hx hb hts hiX5 hown hK hP 0 rfl rfl 5 (by decide) k19 (fun _ h9 => h9) rfl dX5_film_85 ?_
                refine lv_iload hx hb dX5_film_88 (lv_at hl 0 rfl) ?_
                refine ialdN (f := u.2 5) (n := 120) (k := i66) hx hb hK hP 4 rfl rfl (by omega) dX5_film_90 ?_
                refine lv_i2l (v := ((u.2 5) i66).toInt64) hx hb dX5_film_91 rfl ?_
                refine lv_ldc2 (v := 256) hx hb hown (hts (.constantLong RX5 289 (256)) (List.mem_of_getElem? (i := 4) rfl)) dX5_film_92 ?_
                refine lv_aload_n hx hb dX5_film_95 rfl (lv_at hl 1 rfl) ?_
                refine va_get (D := gD G) (ci := 5) (v := .ref (h 6)) (C := RX5) (T := TX5) (N := 38) hx hb hts hiX5 hown hK hP 0 rfl rfl 6 (by decide) k22 (fun _ h9 => h9) rfl dX5_film_96 ?_
                refine lv_iload hx hb dX5_film_99 (lv_at hl 0 rfl) ?_
                refine ialdN (f := u.2 6) (n := 120) (k := i66) hx hb hK hP 5 rfl rfl (by omega) dX5_film_101 ?_
                refine lv_i2l (v := ((u.2 6) i66).toInt64) hx hb dX5_film_102 rfl ?_
                refine lv_lmul hx hb dX5_film_103 ?_
                refine lv_ladd hx hb dX5_film_104 ?_
                refine lv_ldc2 (v := 65536) hx hb hown (hts (.constantLong RX5 291 (65536)) (List.mem_of_getElem? (i := 6) rfl)) dX5_film_105 ?_
                refine lv_aload_n hx hb dX5_film_108 rfl (lv_at hl 1 rfl) ?_
                refine lv_iload hx hb dX5_film_109 (lv_at hl 0 rfl) ?_
                refine cXi (As := [.int (nI i66)]) (rest := [.long 65536, .long ((((u.2 5) i66).toInt64) + (256 * (((u.2 6) i66).toInt64))), .int (nI (((40 * js38) + ji38) + k)), .ref (h 34)]) (S := oS × Int64 × (Nat → Int64)) (wa := mw G h (oA u 26 g) lt ss) (w1 := fun v => mw G h v.1 v.2.1 v.2.2) ⟨hx, hb, hml, hown, hts⟩ (mt_X5_lifeOfF l G h _ u lt ss g (sg.1 0) i66 (hnv) (by first | assumption | omega) (by first | assumption | omega) (by first | assumption | omega)) (cwV 1 hts gX5_film_X5_lifeOf rfl rfl rfl ⟨rfl, hd_X5_lifeOf⟩ ⟨Nat.le_of_ble_eq_true rfl, Nat.le_of_ble_eq_true rfl⟩) hK hN hP hD hS hA (fun _ => rfl) 0 5 rfl rfl rfl hl.1 rfl (Nat.le_of_ble_eq_true rfl) ⟨Nat.zero_le _, Nat.zero_le _⟩ dX5_film_111 (fun r111 u111 H locs hw111 hP hD hS => ?_)
                obtain ⟨g111, rfl, rfl⟩ := hw111
                have hP : PP G (mw G h (oA u 26 g111) lt ss) H := hP
                have hD : va_D A (mw G h (oA u 26 g111) lt ss) := hD
                refine lv_i2l (v := (lifF (fun v => sdb (u.2 6) (u.2 7) (chV (u.2 1) (u.2 2) (u.2 3) (nI v)) i66) (sg.1 0)).toInt64) hx hb dX5_film_114 rfl ?_
                refine lv_lmul hx hb dX5_film_115 ?_
                refine lv_ladd hx hb dX5_film_116 ?_
                refine lastN (f := ss) (n := 160) (k := ((40 * js38) + ji38) + k) hx hb hK hP hD hS 22 rfl rfl (by omega) dX5_film_117 (fun H locs hP hD hS => ?_)
                have hP : PP G (mw G h (oA u 26 g111) lt (vp_updL ss (((40 * js38) + ji38) + k) (((((u.2 5) i66).toInt64) + (256 * (((u.2 6) i66).toInt64))) + (65536 * ((lifF (fun v => sdb (u.2 6) (u.2 7) (chV (u.2 1) (u.2 2) (u.2 3) (nI v)) i66) (sg.1 0)).toInt64))))) H := hP
                have hD : va_D A (mw G h (oA u 26 g111) lt (vp_updL ss (((40 * js38) + ji38) + k) (((((u.2 5) i66).toInt64) + (256 * (((u.2 6) i66).toInt64))) + (65536 * ((lifF (fun v => sdb (u.2 6) (u.2 7) (chV (u.2 1) (u.2 2) (u.2 3) (nI v)) i66) (sg.1 0)).toInt64))))) := hD
                refine lv_iinc (v := nI (k + 1)) (lv' := [(7, .int (nI (k + 1))), (8, .int (nI i66)), (0, .ref (h 0)), (2, .int (nI js38)), (3, .int (nI ji38)), (4, .int (chV (u.2 1) (u.2 2) (u.2 3) (nI a1))), (5, .int (nI (cnt (sdb (u.2 6) (u.2 7) (chV (u.2 1) (u.2 2) (u.2 3) (nI a1))) (sg.1 4))))]) hx hb dX5_film_118 hl (k := 6) rfl (nI_1 k) (by decide) rfl (fun ls hl => ?_)
                refine lv_goto (tgt := 54) hx hb dX5_film_121 (by decide) ?_
                exact ih54 (k + 1) g111 (vp_updL ss (((40 * js38) + ji38) + k) (((((u.2 5) i66).toInt64) + (256 * (((u.2 6) i66).toInt64))) + (65536 * ((lifF (fun v => sdb (u.2 6) (u.2 7) (chV (u.2 1) (u.2 2) (u.2 3) (nI v)) i66) (sg.1 0)).toInt64)))) (by first | assumption | omega) (filM_s (P := (fun n => picS sg (fndN (sdS sg (cvS sg a1)) (sg.1 4) n))) hss (show _ = picS sg (fndN (sdS sg (cvS sg a1)) (sg.1 4) k) from by rw [e66]; exact picM hRM hIS hi66)) (by omega) _ _ ls hP hD hS (lv_sub hl [2, 3, 4, 5, 6, 0] rfl)
              · skip
                exact absurd hq66 n58
        exact LP54 (cnt (sdb (u.2 6) (u.2 7) (chV (u.2 1) (u.2 2) (u.2 3) (nI a1))) (sg.1 4) - 0 + 1) 0 g20 sj (by first | assumption | omega) (fun q => by rw [if_neg (by omega)]) (Nat.lt_succ_self _) _ _ ls hP hD hS (lv_sub hl [4, 6, 7, 3, 2, 0] rfl)
      · skip
        have hE : refS sg s1 i1 (cnt (sdb (u.2 6) (u.2 7) (chV (u.2 1) (u.2 2) (u.2 3) (nI a1))) (sg.1 4)) = aUNK := ref_unk hnu38
        have hct : cnt (sdb (u.2 6) (u.2 7) (chV (u.2 1) (u.2 2) (u.2 3) (nI a1))) (sg.1 4) = nlS sg (cvS sg a1) := by rw [hC.cv (i := a1) hic (by omega)]; exact hC.nl _
        rw [hct] at hE
        refine lv_istore (lv' := [(6, .int (-1000000001 : Int32)), (5, .int (nI (cnt (sdb (u.2 6) (u.2 7) (chV (u.2 1) (u.2 2) (u.2 3) (nI a1))) (sg.1 4)))), (4, .int (chV (u.2 1) (u.2 2) (u.2 3) (nI a1))), (0, .ref (h 0)), (1, .int (nI a1)), (2, .int s1), (3, .int i1)]) hx hb dX5_film_41 hl (by decide) rfl (fun ls hl => ?_)
        refine lv_iload hx hb dX5_film_43 (lv_at hl 0 rfl) ?_
        refine lv_if_eq (tgt := 51) hx hb dX5_film_45 (by decide) (fun c9 => absurd c9 (by decide)) (fun _ => ?_)
        refine lv_iload hx hb dX5_film_48 (lv_at hl 0 rfl) ?_
        exact W.iret (v := (-1000000001 : Int32)) hx hb hr (fun t ht hW => ⟨⟨(-1000000001 : Int32), (oA u 26 g20, lt, sj), rfl, ⟨by rw [filZ, if_pos (inR_t ha1 (by omega)), vN_n (j := a1) (by omega), if_neg (show ¬ refS sg s1 i1 (nlS sg (cvS sg a1)) = 0 from by rw [hE]; decide)]; exact RepM_26 _ hRM, by rw [filA, if_pos (inR_t ha1 (by omega)), vN_n (j := a1) (by omega), if_neg (show ¬ refS sg s1 i1 (nlS sg (cvS sg a1)) = 0 from by rw [hE]; decide), hE]⟩, show PP G (mw G h (oA u 26 g20) lt sj) t.heap by rw [ht]; exact hP⟩, hS.F ht⟩) hS.2.2 dX5_film_50
      · skip
        have hE : refS sg s1 i1 (cnt (sdb (u.2 6) (u.2 7) (chV (u.2 1) (u.2 2) (u.2 3) (nI a1))) (sg.1 4)) = aNULL := by rw [ejs38]; exact ref_nul hjs38 (ShM.no hRM.2.2.2.2.2.2.2.2.2 hjs38 hth38)
        have hct : cnt (sdb (u.2 6) (u.2 7) (chV (u.2 1) (u.2 2) (u.2 3) (nI a1))) (sg.1 4) = nlS sg (cvS sg a1) := by rw [hC.cv (i := a1) hic (by omega)]; exact hC.nl _
        rw [hct] at hE
        refine lv_istore (lv' := [(6, .int (-1000000011 : Int32)), (5, .int (nI (cnt (sdb (u.2 6) (u.2 7) (chV (u.2 1) (u.2 2) (u.2 3) (nI a1))) (sg.1 4)))), (4, .int (chV (u.2 1) (u.2 2) (u.2 3) (nI a1))), (0, .ref (h 0)), (1, .int (nI a1)), (2, .int s1), (3, .int i1)]) hx hb dX5_film_41 hl (by decide) rfl (fun ls hl => ?_)
        refine lv_iload hx hb dX5_film_43 (lv_at hl 0 rfl) ?_
        refine lv_if_eq (tgt := 51) hx hb dX5_film_45 (by decide) (fun c9 => absurd c9 (by decide)) (fun _ => ?_)
        refine lv_iload hx hb dX5_film_48 (lv_at hl 0 rfl) ?_
        exact W.iret (v := (-1000000011 : Int32)) hx hb hr (fun t ht hW => ⟨⟨(-1000000011 : Int32), (oA u 26 g20, lt, sj), rfl, ⟨by rw [filZ, if_pos (inR_t ha1 (by omega)), vN_n (j := a1) (by omega), if_neg (show ¬ refS sg s1 i1 (nlS sg (cvS sg a1)) = 0 from by rw [hE]; decide)]; exact RepM_26 _ hRM, by rw [filA, if_pos (inR_t ha1 (by omega)), vN_n (j := a1) (by omega), if_neg (show ¬ refS sg s1 i1 (nlS sg (cvS sg a1)) = 0 from by rw [hE]; decide), hE]⟩, show PP G (mw G h (oA u 26 g20) lt sj) t.heap by rw [ht]; exact hP⟩, hS.F ht⟩) hS.2.2 dX5_film_50
      · skip
        have hE : refS sg s1 i1 (cnt (sdb (u.2 6) (u.2 7) (chV (u.2 1) (u.2 2) (u.2 3) (nI a1))) (sg.1 4)) = aPLC := by rw [ejs38]; exact ref_plc hjs38 (ShM.sz hRM.2.2.2.2.2.2.2.2.2 hIS hjs38 hth38 hz38 ez38).1 hpl38
        have hct : cnt (sdb (u.2 6) (u.2 7) (chV (u.2 1) (u.2 2) (u.2 3) (nI a1))) (sg.1 4) = nlS sg (cvS sg a1) := by rw [hC.cv (i := a1) hic (by omega)]; exact hC.nl _
        rw [hct] at hE
        refine lv_istore (lv' := [(6, .int (-1000000012 : Int32)), (5, .int (nI (cnt (sdb (u.2 6) (u.2 7) (chV (u.2 1) (u.2 2) (u.2 3) (nI a1))) (sg.1 4)))), (4, .int (chV (u.2 1) (u.2 2) (u.2 3) (nI a1))), (0, .ref (h 0)), (1, .int (nI a1)), (2, .int s1), (3, .int i1)]) hx hb dX5_film_41 hl (by decide) rfl (fun ls hl => ?_)
        refine lv_iload hx hb dX5_film_43 (lv_at hl 0 rfl) ?_
        refine lv_if_eq (tgt := 51) hx hb dX5_film_45 (by decide) (fun c9 => absurd c9 (by decide)) (fun _ => ?_)
        refine lv_iload hx hb dX5_film_48 (lv_at hl 0 rfl) ?_
        exact W.iret (v := (-1000000012 : Int32)) hx hb hr (fun t ht hW => ⟨⟨(-1000000012 : Int32), (oA u 26 g20, lt, sj), rfl, ⟨by rw [filZ, if_pos (inR_t ha1 (by omega)), vN_n (j := a1) (by omega), if_neg (show ¬ refS sg s1 i1 (nlS sg (cvS sg a1)) = 0 from by rw [hE]; decide)]; exact RepM_26 _ hRM, by rw [filA, if_pos (inR_t ha1 (by omega)), vN_n (j := a1) (by omega), if_neg (show ¬ refS sg s1 i1 (nlS sg (cvS sg a1)) = 0 from by rw [hE]; decide), hE]⟩, show PP G (mw G h (oA u 26 g20) lt sj) t.heap by rw [ht]; exact hP⟩, hS.F ht⟩) hS.2.2 dX5_film_50
    · skip
      refine lv_if_ne (tgt := 18) hx hb dX5_film_12 (by decide) (fun c9 => absurd (by decide) c9) (fun _ => ?_)
      refine lv_ldc (v := (-1000000001 : Int32)) hx hb hown (hts (.constant RX5 216 (-1000000001)) (List.mem_of_getElem? (i := 1) rfl)) dX5_film_15 ?_
      exact W.iret (v := (-1000000001 : Int32)) hx hb hr (fun t ht hW => ⟨⟨(-1000000001 : Int32), (u, lt, sj), rfl, ⟨by rw [filZ, if_pos (inR_t ha1 (by omega)), vN_n (j := a1) (by omega), if_neg (show ¬ refS sg s1 i1 (nlS sg (cvS sg a1)) = 0 from by rw [ref_unk hn9]; decide)]; exact hRM, by rw [filA, if_pos (inR_t ha1 (by omega)), vN_n (j := a1) (by omega), if_neg (show ¬ refS sg s1 i1 (nlS sg (cvS sg a1)) = 0 from by rw [ref_unk hn9]; decide), ref_unk hn9]⟩, show PP G (mw G h u lt sj) t.heap by rw [ht]; exact hP⟩, hS.F ht⟩) hS.2.2 dX5_film_17
  · skip
    refine lv_if_eq (tgt := 15) hx hb dX5_film_5 (by decide) (fun _ => ?_) (fun c9 => absurd (by decide) c9)
    refine lv_ldc (v := (-1000000001 : Int32)) hx hb hown (hts (.constant RX5 216 (-1000000001)) (List.mem_of_getElem? (i := 1) rfl)) dX5_film_15 ?_
    exact W.iret (v := (-1000000001 : Int32)) hx hb hr (fun t ht hW => ⟨⟨(-1000000001 : Int32), (u, lt, sj), rfl, ⟨by rw [filZ, if_neg (inR_f (by omega) hna1)]; exact hRM, by rw [filA, if_neg (inR_f (by omega) hna1)]⟩, show PP G (mw G h u lt sj) t.heap by rw [ht]; exact hP⟩, hS.F ht⟩) hS.2.2 dX5_film_17
set_option maxHeartbeats 1000000 in
set_option maxRecDepth 100000 in
theorem mt_X5_isFilmS (l : Launch) (G : gG) (h : Nat → Nat) (sz : Nat) (u : oS) (lt : Int64) (sj : Nat → Int64) (sg : pS) (zz : Nat → Nat → Int64) (a : Int32) (s1 : Int32) (i1 : Int32) (n1 : Int32) (nh : Nat) (hI : MIx u (sg.1 0) (sg.1 4) (sg.1 10) nh) (hIS : IS sg) (hRM : RepM u sj sg zz) : Met l yX5_isFilm wsX5_isFilm ({ frames := 3, cells := 0, slots := 0, locals := 68 }) (preW G (mw G h u lt sj) sz [.ref (h 0), .int a, .int s1, .int i1, .int n1]) (va_Qi (fun (r : Int32) (v : oS × Int64 × (Nat → Int64)) => RepM v.1 v.2.2 (sg) (zz) ∧ r = isfA sg zz a s1 i1 n1) (fun v t => PP G (mw G h v.1 v.2.1 v.2.2) t.heap) (va_A (mw G h u lt sj) sz)) 0 0 (va_A (mw G h u lt sj) sz) := by
  refine Met.ofW (cc := cX5_isFilm) (maxL := 9) (ret := (some .int)) (by decide) rfl ?_
  intro p e s m args below meth c s₁ B hml hv
  obtain ⟨ha, hsz, hP, hK, hN, hD0⟩ := hv
  subst ha
  have hx := B.exec
  have hb := B.bytes
  have hr := B.returns
  have hts := atoms_spec (ws := wsX5_isFilm) B.pre
  have hown : s.vm.findClass RX5 = some m.cls := findClass_of_methodNamed B.named
  have hlocks := B.notSynchronized
  subst hsz
  have hD := hD0.self (sz := s.heap.size)
  generalize hAe : va_A (mw G h u lt sj) s.heap.size = A at hD ⊢
  have hA : ∀ q : Nat, s.heap.size ≤ q → A q := fun q h => by rw [← hAe]; exact Or.inr h
  clear hAe hD0
  have hS : va_S A s.heap s.heap [] := va_S.rf
  have hiX5 : ∀ w ∈ wsX50, w ∈ wsX5_isFilm := fun w h9 => List.mem_cons_of_mem _ (List.mem_append_right _ (h9))
  have k78 := hts (.fieldLink RX5 78 "WovenHistoryModel" "sheets" "[J") (List.mem_of_getElem? (i := 3) rfl)
  have k19 := hts (.fieldLink RX5 19 "WovenHistoryModel" "letter" "[I") (List.mem_of_getElem? (i := 5) rfl)
  have hl := lv_entry ([.ref (h 0), .int a, .int s1, .int i1, .int n1]) (n := 9) (Nat.le_of_ble_eq_true rfl)
  rw [lg_entry_eq]
  generalize (lg_sl ([.ref (h 0), .int a, .int s1, .int i1, .int n1]) ++ List.replicate (9 - (lg_sl ([.ref (h 0), .int a, .int s1, .int i1, .int n1])).length) Slot.unset).toArray = ls at hl ⊢
  have hl : lv_has ls 9 [(0, .ref (h 0)), (1, .int a), (2, .int s1), (3, .int i1), (4, .int n1)] := hl
  have hC := hRM.1
  have hic := hIS.ic
  have hle8 := hIS.2.2.1
  have h8e := hRM.2.1
  have hI0 := hI
  obtain ⟨hnv, hnl, hnt, hnh, hnv24, hnl120, hnt240, hnh120, hop, hopn, hparV, hsz4, himg⟩ := hI
  refine lv_aload_n hx hb dX5_isFilm_0 rfl (lv_at hl 0 rfl) ?_
  refine lv_iload_n hx hb dX5_isFilm_1 rfl (lv_at hl 1 rfl) ?_
  refine cRi (w := mw G h u lt sj) (As := [.int a]) (rest := []) ⟨hx, hb, hml, hown, hts⟩ (mt_X5_isVersion l G h u lt sj (sg.1 0) a (hnv) (by first | assumption | omega)) (cwV 1 hts gX5_isFilm_X5_isVersion rfl rfl rfl ⟨rfl, hd_X5_isVersion⟩ ⟨Nat.le_of_ble_eq_true rfl, Nat.le_of_ble_eq_true rfl⟩) hK hN hP 0 5 rfl rfl rfl hl.1 rfl (Nat.le_of_ble_eq_true rfl) ⟨Nat.zero_le _, Nat.zero_le _⟩ dX5_isFilm_2 (fun r2 hw2 => ?_)
  rcases hw2 with ⟨rfl, a1, ha1, rfl⟩ | ⟨rfl, hna1⟩
  · skip
    refine lv_if_eq (tgt := 15) hx hb dX5_isFilm_5 (by decide) (fun c9 => absurd c9 (by decide)) (fun _ => ?_)
    refine lv_iload_n hx hb dX5_isFilm_8 rfl (lv_at hl 2 rfl) ?_
    refine cSi (As := [.int s1]) (rest := []) ⟨hx, hb, hml, hown, hts⟩ (mt_X5_isSheet l s1) (va_cwS 1 hts gX5_isFilm_X5_isSheet rfl rfl rfl hd_X5_isSheet ⟨Nat.le_of_ble_eq_true rfl, Nat.le_of_ble_eq_true rfl⟩) rfl hl.1 rfl (Nat.le_of_ble_eq_true rfl) ⟨Nat.zero_le _, Nat.zero_le _⟩ dX5_isFilm_9 (fun r9 hw9 => ?_)
    rcases hw9 with ⟨rfl, j9, hj9, ej9⟩ | ⟨rfl, hn9⟩
    · skip
      refine lv_if_ne (tgt := 18) hx hb dX5_isFilm_12 (by decide) (fun _ => ?_) (fun c9 => absurd c9 (by decide))
      refine lv_iload hx hb dX5_isFilm_18 (lv_at hl 4 rfl) ?_
      refine lv_if_ge (tgt := 26) hx hb dX5_isFilm_20 (by decide) (fun c20 => ?_) (fun c20 => ?_)
      · skip
        obtain ⟨n2, hn2, rfl⟩ := nI_of (fun q => absurd c20 (Int32.not_le.mpr q))
        refine lv_aload_n hx hb dX5_isFilm_26 rfl (lv_at hl 0 rfl) ?_
        refine lv_iload_n hx hb dX5_isFilm_27 rfl (lv_at hl 2 rfl) ?_
        refine lv_iload_n hx hb dX5_isFilm_28 rfl (lv_at hl 3 rfl) ?_
        refine lv_iload hx hb dX5_isFilm_29 (lv_at hl 4 rfl) ?_
        refine cRi (w := mw G h u lt sj) (As := [.int s1, .int i1, .int (nI n2)]) (rest := []) ⟨hx, hb, hml, hown, hts⟩ (mt_X5_refused l G h u lt sj s1 i1 n2 (by first | assumption | omega) (by omega)) (cwV 3 hts gX5_isFilm_X5_refused rfl rfl rfl ⟨rfl, hd_X5_refused⟩ ⟨Nat.le_of_ble_eq_true rfl, Nat.le_of_ble_eq_true rfl⟩) hK hN hP 0 5 rfl rfl rfl hl.1 rfl (Nat.le_of_ble_eq_true rfl) ⟨Nat.zero_le _, Nat.zero_le _⟩ dX5_isFilm_31 (fun r31 hw31 => ?_)
        rcases hw31 with ⟨rfl, js31, ji31, z31, hjs31, rfl, hth31, hz31, ez31, rfl, hji31⟩ | ⟨rfl, hnu31⟩ | ⟨rfl, js31, hjs31, ejs31, hth31⟩ | ⟨rfl, js31, z31, hjs31, ejs31, hth31, hz31, ez31, hpl31⟩
        · skip
          obtain ⟨hzs, hzv⟩ := ShM.sz hRM.2.2.2.2.2.2.2.2.2 hIS hjs31 hth31 hz31 ez31
          have hE : refS sg (nI js31) (nI ji31) (n2) = 0 := ref_ok hjs31 hzs hz31 hji31
          refine lv_istore (lv' := [(5, .int (0 : Int32)), (0, .ref (h 0)), (1, .int (nI a1)), (2, .int (nI js31)), (3, .int (nI ji31)), (4, .int (nI n2))]) hx hb dX5_isFilm_34 hl (by decide) rfl (fun ls hl => ?_)
          refine lv_iload hx hb dX5_isFilm_36 (lv_at hl 0 rfl) ?_
          refine lv_if_eq (tgt := 44) hx hb dX5_isFilm_38 (by decide) (fun _ => ?_) (fun c9 => absurd (by decide) c9)
          refine lv_aload_n hx hb dX5_isFilm_44 rfl (lv_at hl 1 rfl) ?_
          refine lv_iload_n hx hb dX5_isFilm_45 rfl (lv_at hl 2 rfl) ?_
          have hP := mw_self26 hP
          have hD : va_D A (mw G h (oA u 26 (u.2 26)) lt sj) := mw_self26D hD
          refine cXi (As := [.int (nI a1)]) (rest := []) (S := oS × Int64 × (Nat → Int64)) (wa := mw G h (oA u 26 (u.2 26)) lt sj) (w1 := fun v => mw G h v.1 v.2.1 v.2.2) ⟨hx, hb, hml, hown, hts⟩ (mt_X5_changesOf l G h _ u lt sj (u.2 26) a1 (by first | assumption | omega) (hparV.le (by omega))) (cwV 1 hts gX5_isFilm_X5_changesOf rfl rfl rfl ⟨rfl, hd_X5_changesOf⟩ ⟨Nat.le_of_ble_eq_true rfl, Nat.le_of_ble_eq_true rfl⟩) hK hN hP hD hS hA (fun _ => rfl) 0 5 rfl rfl rfl hl.1 rfl (Nat.le_of_ble_eq_true rfl) ⟨Nat.zero_le _, Nat.zero_le _⟩ dX5_isFilm_46 (fun r46 u46 H locs hw46 hP hD hS => ?_)
          obtain ⟨g46, rfl, rfl⟩ := hw46
          have hP : PP G (mw G h (oA u 26 g46) lt sj) H := hP
          have hD : va_D A (mw G h (oA u 26 g46) lt sj) := hD
          refine lv_istore (lv' := [(6, .int (chV (u.2 1) (u.2 2) (u.2 3) (nI a1))), (5, .int (0 : Int32)), (0, .ref (h 0)), (1, .int (nI a1)), (2, .int (nI js31)), (3, .int (nI ji31)), (4, .int (nI n2))]) hx hb dX5_isFilm_49 hl (by decide) rfl (fun ls hl => ?_)
          refine lv_aload_n hx hb dX5_isFilm_51 rfl (lv_at hl 2 rfl) ?_
          refine lv_iload hx hb dX5_isFilm_52 (lv_at hl 0 rfl) ?_
          refine cRi (w := mw G h (oA u 26 g46) lt sj) (As := [.int (chV (u.2 1) (u.2 2) (u.2 3) (nI a1))]) (rest := []) ⟨hx, hb, hml, hown, hts⟩ (mt_X5_manyOf l G h (oA u 26 g46) lt sj (sg.1 4) (chV (u.2 1) (u.2 2) (u.2 3) (nI a1)) (hnl) (by first | assumption | omega)) (cwV 1 hts gX5_isFilm_X5_manyOf rfl rfl rfl ⟨rfl, hd_X5_manyOf⟩ ⟨Nat.le_of_ble_eq_true rfl, Nat.le_of_ble_eq_true rfl⟩) hK hN hP 0 5 rfl rfl rfl hl.1 rfl (Nat.le_of_ble_eq_true rfl) ⟨Nat.zero_le _, Nat.zero_le _⟩ dX5_isFilm_54 (fun r54 hw54 => ?_)
          obtain rfl := hw54
          have hc54 := cnt_le (sdb (u.2 6) (u.2 7) (chV (u.2 1) (u.2 2) (u.2 3) (nI a1))) (sg.1 4)
          refine lv_iload hx hb dX5_isFilm_57 (lv_at hl 6 rfl) ?_
          have hct : cnt (sdb (u.2 6) (u.2 7) (chV (u.2 1) (u.2 2) (u.2 3) (nI a1))) (sg.1 4) = nlS sg (cvS sg a1) := by rw [hC.cv (i := a1) hic (by omega)]; exact hC.nl _
          refine lv_icmp_ne (tgt := 66) hx hb dX5_isFilm_59 (by decide) (fun c59 => ?_) (fun c59 => ?_)
          · skip
            have n59 : ¬ ((cnt (sdb (u.2 6) (u.2 7) (chV (u.2 1) (u.2 2) (u.2 3) (nI a1))) (sg.1 4)) = n2) := fun q9 => c59 ((nI_eq (a := cnt (sdb (u.2 6) (u.2 7) (chV (u.2 1) (u.2 2) (u.2 3) (nI a1))) (sg.1 4)) (b := n2) (by omega) (by omega)).mpr q9)
            refine lv_iconst (v := nI 0) hx hb dX5_isFilm_66 (by decide) ?_
            refine lv_istore (lv' := [(7, .int (nI 0)), (6, .int (chV (u.2 1) (u.2 2) (u.2 3) (nI a1))), (5, .int (0 : Int32)), (0, .ref (h 0)), (1, .int (nI a1)), (2, .int (nI js31)), (3, .int (nI ji31)), (4, .int (nI n2))]) hx hb dX5_isFilm_67 hl (by decide) rfl (fun ls hl => ?_)
            refine lv_iconst (v := nI 0) hx hb dX5_isFilm_69 (by decide) ?_
            refine lv_istore (lv' := [(8, .int (nI 0)), (7, .int (nI 0)), (6, .int (chV (u.2 1) (u.2 2) (u.2 3) (nI a1))), (5, .int (0 : Int32)), (0, .ref (h 0)), (1, .int (nI a1)), (2, .int (nI js31)), (3, .int (nI ji31)), (4, .int (nI n2))]) hx hb dX5_isFilm_70 hl (by decide) rfl (fun ls hl => ?_)
            have LP72 : ∀ (n72m : Nat), ∀ (k : Nat) (x : Int32) (hk : k ≤ n2) (hxx : (x = 1 ∧ cnt (sdb (u.2 6) (u.2 7) (chV (u.2 1) (u.2 2) (u.2 3) (nI a1))) (sg.1 4) = n2 ∧ ∀ q, q < k → zz js31 (ji31 + q) &&& 255 = (sg.2 5 (fndN (sdS sg (cvS sg a1)) (sg.1 4) q)).toInt64) ∨ (x = 0 ∧ isfB sg zz a1 js31 ji31 n2 = false)), (n2 - k < n72m) → ∀ (H : Heap) (locs : List Loc) (ls : Array Slot), PP G (mw G h (oA u 26 g46) lt sj) H → va_D A (mw G h (oA u 26 g46) lt sj) → va_S A s.heap H locs → lv_has ls 9 [(0, .ref (h 0)), (2, .int (nI js31)), (3, .int (nI ji31)), (4, .int (nI n2)), (6, .int (chV (u.2 1) (u.2 2) (u.2 3) (nI a1))), (7, .int x), (8, .int (nI k))] → W p l e (headSpec wsX5_isFilm ({ frames := 3, cells := 0, slots := 0, locals := 68 })).room s m ([.ref (h 0), .int (nI a1), .int (nI js31), .int (nI ji31), .int (nI n2)] : List Value).toArray below meth c H locs 0 0 (MQ below (va_Qi (fun (r : Int32) (v : oS × Int64 × (Nat → Int64)) => RepM v.1 v.2.2 (sg) (zz) ∧ r = isfA sg zz (nI a1) (nI js31) (nI ji31) (nI n2)) (fun v t => PP G (mw G h v.1 v.2.1 v.2.2) t.heap) A) ([.ref (h 0), .int (nI a1), .int (nI js31), .int (nI ji31), .int (nI n2)] : List Value).toArray s 0 0 A) (F0 m 72 ls []) := by
              intro n72m
              induction n72m with
              | zero => intro k x hk hxx hmu H locs ls hP hD hS hl; exact absurd hmu (Nat.not_lt_zero _)
              | succ n72m ih72 =>
                intro k x hk hxx hmu H locs ls hP hD hS hl
                refine lv_iload hx hb dX5_isFilm_72 (lv_at hl 6 rfl) ?_
                refine lv_iload hx hb dX5_isFilm_74 (lv_at hl 3 rfl) ?_
                refine lv_icmp_ge (tgt := 133) hx hb dX5_isFilm_76 (by decide) (fun c76 => ?_) (fun c76 => ?_)
                · skip
                  have n76 : n2 ≤ k := (nI_leI (a := n2) (b := k) (by omega) (by omega)).mp c76
                  refine lv_iload hx hb dX5_isFilm_133 (lv_at hl 5 rfl) ?_
                  refine lv_if_eq (tgt := 142) hx hb dX5_isFilm_135 (by decide) (fun c135 => ?_) (fun c135 => ?_)
                  · skip
                    refine lv_iconst (v := nI 0) hx hb dX5_isFilm_142 (by decide) ?_
                    exact W.iret (v := nI 0) hx hb hr (fun t ht hW => ⟨⟨nI 0, (oA u 26 g46, lt, sj), rfl, ⟨RepM_26 _ hRM, by rw [isfA, if_pos ⟨inR_t ha1 (by omega), inR_t hjs31 (by omega)⟩, if_neg (nI_pos (by omega)), vN_n' (j := n2) (by omega), if_pos hE, vN_n (j := a1) (by omega), vN_n (j := js31) (by omega), vN_n (j := ji31) (by omega), if_neg (by rw [(hxx.resolve_left (fun q => absurd (q.1.symm.trans c135) (by decide))).2]; decide)]; rfl⟩, show PP G (mw G h (oA u 26 g46) lt sj) t.heap by rw [ht]; exact hP⟩, hS.F ht⟩) hS.2.2 dX5_isFilm_143
                  · skip
                    refine lv_iconst (v := nI 1) hx hb dX5_isFilm_138 (by decide) ?_
                    refine lv_goto (tgt := 143) hx hb dX5_isFilm_139 (by decide) ?_
                    exact W.iret (v := nI 1) hx hb hr (fun t ht hW => ⟨⟨nI 1, (oA u 26 g46, lt, sj), rfl, ⟨RepM_26 _ hRM, by rw [isfA, if_pos ⟨inR_t ha1 (by omega), inR_t hjs31 (by omega)⟩, if_neg (nI_pos (by omega)), vN_n' (j := n2) (by omega), if_pos hE, vN_n (j := a1) (by omega), vN_n (j := js31) (by omega), vN_n (j := ji31) (by omega), if_pos (isf_t (hct.symm.trans (hxx.resolve_right (fun q => c135 q.1)).2.1) (fun q h9 => (hxx.resolve_right (fun q => c135 q.1)).2.2 q (by first | omega | exact absurd c81 c135)))]; rfl⟩, show PP G (mw G h (oA u 26 g46) lt sj) t.heap by rw [ht]; exact hP⟩, hS.F ht⟩) hS.2.2 dX5_isFilm_143
                · skip
                  have n76 : ¬ (n2 ≤ k) := fun q9 => c76 ((nI_leI (a := n2) (b := k) (by omega) (by omega)).mpr q9)
                  refine lv_iload hx hb dX5_isFilm_79 (lv_at hl 5 rfl) ?_
                  refine lv_if_eq (tgt := 133) hx hb dX5_isFilm_81 (by decide) (fun c81 => ?_) (fun c81 => ?_)
                  · skip
                    refine lv_iload hx hb dX5_isFilm_133 (lv_at hl 5 rfl) ?_
                    refine lv_if_eq (tgt := 142) hx hb dX5_isFilm_135 (by decide) (fun c135 => ?_) (fun c135 => ?_)
                    · skip
                      refine lv_iconst (v := nI 0) hx hb dX5_isFilm_142 (by decide) ?_
                      exact W.iret (v := nI 0) hx hb hr (fun t ht hW => ⟨⟨nI 0, (oA u 26 g46, lt, sj), rfl, ⟨RepM_26 _ hRM, by rw [isfA, if_pos ⟨inR_t ha1 (by omega), inR_t hjs31 (by omega)⟩, if_neg (nI_pos (by omega)), vN_n' (j := n2) (by omega), if_pos hE, vN_n (j := a1) (by omega), vN_n (j := js31) (by omega), vN_n (j := ji31) (by omega), if_neg (by rw [(hxx.resolve_left (fun q => absurd (q.1.symm.trans c135) (by decide))).2]; decide)]; rfl⟩, show PP G (mw G h (oA u 26 g46) lt sj) t.heap by rw [ht]; exact hP⟩, hS.F ht⟩) hS.2.2 dX5_isFilm_143
                    · skip
                      refine lv_iconst (v := nI 1) hx hb dX5_isFilm_138 (by decide) ?_
                      refine lv_goto (tgt := 143) hx hb dX5_isFilm_139 (by decide) ?_
                      exact W.iret (v := nI 1) hx hb hr (fun t ht hW => ⟨⟨nI 1, (oA u 26 g46, lt, sj), rfl, ⟨RepM_26 _ hRM, by rw [isfA, if_pos ⟨inR_t ha1 (by omega), inR_t hjs31 (by omega)⟩, if_neg (nI_pos (by omega)), vN_n' (j := n2) (by omega), if_pos hE, vN_n (j := a1) (by omega), vN_n (j := js31) (by omega), vN_n (j := ji31) (by omega), if_pos (isf_t (hct.symm.trans (hxx.resolve_right (fun q => c135 q.1)).2.1) (fun q h9 => (hxx.resolve_right (fun q => c135 q.1)).2.2 q (by first | omega | exact absurd c81 c135)))]; rfl⟩, show PP G (mw G h (oA u 26 g46) lt sj) t.heap by rw [ht]; exact hP⟩, hS.F ht⟩) hS.2.2 dX5_isFilm_143
                  · skip
                    obtain ⟨hx81, hcn81, hal81⟩ := hxx.resolve_right (fun q => c81 q.1)
                    refine lv_aload_n hx hb dX5_isFilm_84 rfl (lv_at hl 0 rfl) ?_
                    refine va_get (D := gD G) (ci := 5) (v := .ref (h 34)) (C := RX5) (T := TX5) (N := 38) hx hb hts hiX5 hown hK hP 0 rfl rfl 34 (by decide) k78 (fun _ h9 => h9) rfl dX5_isFilm_85 ?_
                    refine lv_bipush (v := nI 40) hx hb dX5_isFilm_88 (by decide) ?_
                    refine lv_iload_n hx hb dX5_isFilm_90 rfl (lv_at hl 1 rfl) ?_
                    refine lv_imul hx hb dX5_isFilm_91 ?_
                    refine topE (y := nI (40 * js31)) (pk_mul 40 js31) ?_
                    refine lv_iload_n hx hb dX5_isFilm_92 rfl (lv_at hl 2 rfl) ?_
                    refine lv_iadd hx hb dX5_isFilm_93 ?_
                    refine topE (y := nI ((40 * js31) + ji31)) (nI_add (40 * js31) ji31) ?_
                    refine lv_iload hx hb dX5_isFilm_94 (lv_at hl 6 rfl) ?_
                    refine lv_iadd hx hb dX5_isFilm_96 ?_
                    refine topE (y := nI (((40 * js31) + ji31) + k)) (nI_add ((40 * js31) + ji31) k) ?_
                    refine laldN (f := sj) (n := 160) (k := ((40 * js31) + ji31) + k) hx hb hK hP 22 rfl rfl (by omega) dX5_isFilm_97 ?_
                    refine lv_ldc2 (v := 255) hx hb hown (hts (.constantLong RX5 98 (255)) (List.mem_of_getElem? (i := 4) rfl)) dX5_isFilm_98 ?_
                    refine lv_land hx hb dX5_isFilm_101 ?_
                    refine lv_aload_n hx hb dX5_isFilm_102 rfl (lv_at hl 0 rfl) ?_
                    refine va_get (D := gD G) (ci := 5) (v := .ref (h 5)) (C := RX5) (T := TX5) (N := 38) hx hb hts hiX5 hown hK hP 0 rfl rfl 5 (by decide) k19 (fun _ h9 => h9) rfl dX5_isFilm_103 ?_
                    refine lv_aload_n hx hb dX5_isFilm_106 rfl (lv_at hl 0 rfl) ?_
                    refine lv_iload hx hb dX5_isFilm_107 (lv_at hl 4 rfl) ?_
                    refine lv_iload hx hb dX5_isFilm_109 (lv_at hl 6 rfl) ?_
                    refine cRi (w := mw G h (oA u 26 g46) lt sj) (As := [.int (chV (u.2 1) (u.2 2) (u.2 3) (nI a1)), .int (nI k)]) (rest := [.ref (h 5), .long ((sj (((40 * js31) + ji31) + k)) &&& 255)]) ⟨hx, hb, hml, hown, hts⟩ (mt_X5_lineAt l G h (oA u 26 g46) lt sj (sg.1 4) (chV (u.2 1) (u.2 2) (u.2 3) (nI a1)) k (hnl) (by first | assumption | omega) (by omega)) (cwV 2 hts gX5_isFilm_X5_lineAt rfl rfl rfl ⟨rfl, hd_X5_lineAt⟩ ⟨Nat.le_of_ble_eq_true rfl, Nat.le_of_ble_eq_true rfl⟩) hK hN hP 0 5 rfl rfl rfl hl.1 rfl (Nat.le_of_ble_eq_true rfl) ⟨Nat.zero_le _, Nat.zero_le _⟩ dX5_isFilm_111 (fun r111 hw111 => ?_)
                    rcases hw111 with ⟨i111, hi111, hp111, hq111, rfl⟩ | ⟨hq111, rfl⟩
                    · skip
                      have e111 : fndN (sdS sg (cvS sg a1)) (sg.1 4) k = i111 := fndMv hRM hIS ha1 hi111 hp111 hq111
                      have e112 : sj (40 * js31 + ji31 + k) = zz js31 (ji31 + k) := (congrArg sj (Nat.add_assoc _ _ _)).trans (hzv (ji31 + k) (by omega))
                      refine ialdN (f := u.2 5) (n := 120) (k := i111) hx hb hK hP 4 rfl rfl (by omega) dX5_isFilm_114 ?_
                      refine lv_i2l (v := ((u.2 5) i111).toInt64) hx hb dX5_isFilm_115 rfl ?_
                      refine W.lcmp hx hb dX5_isFilm_116 ?_
                      refine lv_if_ne (tgt := 124) hx hb dX5_isFilm_117 (by decide) (fun c117 => ?_) (fun c117 => ?_)
                      · skip
                        have n117 : ¬ (((sj (((40 * js31) + ji31) + k)) &&& 255) = (((u.2 5) i111).toInt64)) := fun q9 => c117 ((lg_cmp_eq _ _).mpr q9)
                        refine lv_iconst (v := nI 0) hx hb dX5_isFilm_124 (by decide) ?_
                        refine lv_istore (lv' := [(7, .int (nI 0)), (0, .ref (h 0)), (2, .int (nI js31)), (3, .int (nI ji31)), (4, .int (nI n2)), (6, .int (chV (u.2 1) (u.2 2) (u.2 3) (nI a1))), (8, .int (nI k))]) hx hb dX5_isFilm_125 hl (by decide) rfl (fun ls hl => ?_)
                        refine lv_iinc (v := nI (k + 1)) (lv' := [(8, .int (nI (k + 1))), (7, .int (nI 0)), (0, .ref (h 0)), (2, .int (nI js31)), (3, .int (nI ji31)), (4, .int (nI n2)), (6, .int (chV (u.2 1) (u.2 2) (u.2 3) (nI a1)))]) hx hb dX5_isFilm_127 hl (k := 6) rfl (nI_1 k) (by decide) rfl (fun ls hl => ?_)
                        refine lv_goto (tgt := 72) hx hb dX5_isFilm_130 (by decide) ?_
                        exact ih72 (k + 1) (nI 0) (by first | assumption | omega) (Or.inr ⟨rfl, isf_f2 (k := k) (by omega) (by rw [e111, ← e112, ← hC.2.2.2.2.2.1 i111 hi111]; exact n117)⟩) (by omega) _ _ ls hP hD hS (lv_sub hl [2, 3, 4, 5, 6, 1, 0] rfl)
                      · skip
                        have n117 : ((sj (((40 * js31) + ji31) + k)) &&& 255) = (((u.2 5) i111).toInt64) := (lg_cmp_eq _ _).mp c117
                        refine lv_iconst (v := nI 1) hx hb dX5_isFilm_120 (by decide) ?_
                        refine lv_goto (tgt := 125) hx hb dX5_isFilm_121 (by decide) ?_
                        refine lv_istore (lv' := [(7, .int (nI 1)), (0, .ref (h 0)), (2, .int (nI js31)), (3, .int (nI ji31)), (4, .int (nI n2)), (6, .int (chV (u.2 1) (u.2 2) (u.2 3) (nI a1))), (8, .int (nI k))]) hx hb dX5_isFilm_125 hl (by decide) rfl (fun ls hl => ?_)
                        refine lv_iinc (v := nI (k + 1)) (lv' := [(8, .int (nI (k + 1))), (7, .int (nI 1)), (0, .ref (h 0)), (2, .int (nI js31)), (3, .int (nI ji31)), (4, .int (nI n2)), (6, .int (chV (u.2 1) (u.2 2) (u.2 3) (nI a1)))]) hx hb dX5_isFilm_127 hl (k := 6) rfl (nI_1 k) (by decide) rfl (fun ls hl => ?_)
                        refine lv_goto (tgt := 72) hx hb dX5_isFilm_130 (by decide) ?_
                        exact ih72 (k + 1) (nI 1) (by first | assumption | omega) (Or.inl ⟨rfl, hcn81, fun q h9 => by by_cases e9 : q = k; (rw [e9, e111, ← e112, ← hC.2.2.2.2.2.1 i111 hi111]; exact n117); exact hal81 q (by omega)⟩) (by omega) _ _ ls hP hD hS (lv_sub hl [2, 3, 4, 5, 6, 1, 0] rfl)
                    · skip
                      exact absurd (show cnt (sdb (u.2 6) (u.2 7) (chV (u.2 1) (u.2 2) (u.2 3) (nI a1))) (sg.1 4) ≤ k from hq111) (by rw [hcn81]; exact n76)
            exact LP72 (n2 - 0 + 1) 0 (nI 0) (by first | assumption | omega) (Or.inr ⟨rfl, isf_f1 (fun q => n59 (hct.trans q))⟩) (Nat.lt_succ_self _) _ _ ls hP hD hS (lv_sub hl [4, 6, 7, 8, 2, 1, 0] rfl)
          · skip
            have n59 : (cnt (sdb (u.2 6) (u.2 7) (chV (u.2 1) (u.2 2) (u.2 3) (nI a1))) (sg.1 4)) = n2 := (nI_eq (a := cnt (sdb (u.2 6) (u.2 7) (chV (u.2 1) (u.2 2) (u.2 3) (nI a1))) (sg.1 4)) (b := n2) (by omega) (by omega)).mp c59
            refine lv_iconst (v := nI 1) hx hb dX5_isFilm_62 (by decide) ?_
            refine lv_goto (tgt := 67) hx hb dX5_isFilm_63 (by decide) ?_
            refine lv_istore (lv' := [(7, .int (nI 1)), (6, .int (chV (u.2 1) (u.2 2) (u.2 3) (nI a1))), (5, .int (0 : Int32)), (0, .ref (h 0)), (1, .int (nI a1)), (2, .int (nI js31)), (3, .int (nI ji31)), (4, .int (nI n2))]) hx hb dX5_isFilm_67 hl (by decide) rfl (fun ls hl => ?_)
            refine lv_iconst (v := nI 0) hx hb dX5_isFilm_69 (by decide) ?_
            refine lv_istore (lv' := [(8, .int (nI 0)), (7, .int (nI 1)), (6, .int (chV (u.2 1) (u.2 2) (u.2 3) (nI a1))), (5, .int (0 : Int32)), (0, .ref (h 0)), (1, .int (nI a1)), (2, .int (nI js31)), (3, .int (nI ji31)), (4, .int (nI n2))]) hx hb dX5_isFilm_70 hl (by decide) rfl (fun ls hl => ?_)
            have LP72 : ∀ (n72m : Nat), ∀ (k : Nat) (x : Int32) (hk : k ≤ n2) (hxx : (x = 1 ∧ cnt (sdb (u.2 6) (u.2 7) (chV (u.2 1) (u.2 2) (u.2 3) (nI a1))) (sg.1 4) = n2 ∧ ∀ q, q < k → zz js31 (ji31 + q) &&& 255 = (sg.2 5 (fndN (sdS sg (cvS sg a1)) (sg.1 4) q)).toInt64) ∨ (x = 0 ∧ isfB sg zz a1 js31 ji31 n2 = false)), (n2 - k < n72m) → ∀ (H : Heap) (locs : List Loc) (ls : Array Slot), PP G (mw G h (oA u 26 g46) lt sj) H → va_D A (mw G h (oA u 26 g46) lt sj) → va_S A s.heap H locs → lv_has ls 9 [(0, .ref (h 0)), (2, .int (nI js31)), (3, .int (nI ji31)), (4, .int (nI n2)), (6, .int (chV (u.2 1) (u.2 2) (u.2 3) (nI a1))), (7, .int x), (8, .int (nI k))] → W p l e (headSpec wsX5_isFilm ({ frames := 3, cells := 0, slots := 0, locals := 68 })).room s m ([.ref (h 0), .int (nI a1), .int (nI js31), .int (nI ji31), .int (nI n2)] : List Value).toArray below meth c H locs 0 0 (MQ below (va_Qi (fun (r : Int32) (v : oS × Int64 × (Nat → Int64)) => RepM v.1 v.2.2 (sg) (zz) ∧ r = isfA sg zz (nI a1) (nI js31) (nI ji31) (nI n2)) (fun v t => PP G (mw G h v.1 v.2.1 v.2.2) t.heap) A) ([.ref (h 0), .int (nI a1), .int (nI js31), .int (nI ji31), .int (nI n2)] : List Value).toArray s 0 0 A) (F0 m 72 ls []) := by
              intro n72m
              induction n72m with
              | zero => intro k x hk hxx hmu H locs ls hP hD hS hl; exact absurd hmu (Nat.not_lt_zero _)
              | succ n72m ih72 =>
                intro k x hk hxx hmu H locs ls hP hD hS hl
                refine lv_iload hx hb dX5_isFilm_72 (lv_at hl 6 rfl) ?_
                refine lv_iload hx hb dX5_isFilm_74 (lv_at hl 3 rfl) ?_
                refine lv_icmp_ge (tgt := 133) hx hb dX5_isFilm_76 (by decide) (fun c76 => ?_) (fun c76 => ?_)
                · skip
                  have n76 : n2 ≤ k := (nI_leI (a := n2) (b := k) (by omega) (by omega)).mp c76
                  refine lv_iload hx hb dX5_isFilm_133 (lv_at hl 5 rfl) ?_
                  refine lv_if_eq (tgt := 142) hx hb dX5_isFilm_135 (by decide) (fun c135 => ?_) (fun c135 => ?_)
                  · skip
                    refine lv_iconst (v := nI 0) hx hb dX5_isFilm_142 (by decide) ?_
                    exact W.iret (v := nI 0) hx hb hr (fun t ht hW => ⟨⟨nI 0, (oA u 26 g46, lt, sj), rfl, ⟨RepM_26 _ hRM, by rw [isfA, if_pos ⟨inR_t ha1 (by omega), inR_t hjs31 (by omega)⟩, if_neg (nI_pos (by omega)), vN_n' (j := n2) (by omega), if_pos hE, vN_n (j := a1) (by omega), vN_n (j := js31) (by omega), vN_n (j := ji31) (by omega), if_neg (by rw [(hxx.resolve_left (fun q => absurd (q.1.symm.trans c135) (by decide))).2]; decide)]; rfl⟩, show PP G (mw G h (oA u 26 g46) lt sj) t.heap by rw [ht]; exact hP⟩, hS.F ht⟩) hS.2.2 dX5_isFilm_143
                  · skip
                    refine lv_iconst (v := nI 1) hx hb dX5_isFilm_138 (by decide) ?_
                    refine lv_goto (tgt := 143) hx hb dX5_isFilm_139 (by decide) ?_
                    exact W.iret (v := nI 1) hx hb hr (fun t ht hW => ⟨⟨nI 1, (oA u 26 g46, lt, sj), rfl, ⟨RepM_26 _ hRM, by rw [isfA, if_pos ⟨inR_t ha1 (by omega), inR_t hjs31 (by omega)⟩, if_neg (nI_pos (by omega)), vN_n' (j := n2) (by omega), if_pos hE, vN_n (j := a1) (by omega), vN_n (j := js31) (by omega), vN_n (j := ji31) (by omega), if_pos (isf_t (hct.symm.trans (hxx.resolve_right (fun q => c135 q.1)).2.1) (fun q h9 => (hxx.resolve_right (fun q => c135 q.1)).2.2 q (by first | omega | exact absurd c81 c135)))]; rfl⟩, show PP G (mw G h (oA u 26 g46) lt sj) t.heap by rw [ht]; exact hP⟩, hS.F ht⟩) hS.2.2 dX5_isFilm_143
                · skip
                  have n76 : ¬ (n2 ≤ k) := fun q9 => c76 ((nI_leI (a := n2) (b := k) (by omega) (by omega)).mpr q9)
                  refine lv_iload hx hb dX5_isFilm_79 (lv_at hl 5 rfl) ?_
                  refine lv_if_eq (tgt := 133) hx hb dX5_isFilm_81 (by decide) (fun c81 => ?_) (fun c81 => ?_)
                  · skip
                    refine lv_iload hx hb dX5_isFilm_133 (lv_at hl 5 rfl) ?_
                    refine lv_if_eq (tgt := 142) hx hb dX5_isFilm_135 (by decide) (fun c135 => ?_) (fun c135 => ?_)
                    · skip
                      refine lv_iconst (v := nI 0) hx hb dX5_isFilm_142 (by decide) ?_
                      exact W.iret (v := nI 0) hx hb hr (fun t ht hW => ⟨⟨nI 0, (oA u 26 g46, lt, sj), rfl, ⟨RepM_26 _ hRM, by rw [isfA, if_pos ⟨inR_t ha1 (by omega), inR_t hjs31 (by omega)⟩, if_neg (nI_pos (by omega)), vN_n' (j := n2) (by omega), if_pos hE, vN_n (j := a1) (by omega), vN_n (j := js31) (by omega), vN_n (j := ji31) (by omega), if_neg (by rw [(hxx.resolve_left (fun q => absurd (q.1.symm.trans c135) (by decide))).2]; decide)]; rfl⟩, show PP G (mw G h (oA u 26 g46) lt sj) t.heap by rw [ht]; exact hP⟩, hS.F ht⟩) hS.2.2 dX5_isFilm_143
                    · skip
                      refine lv_iconst (v := nI 1) hx hb dX5_isFilm_138 (by decide) ?_
                      refine lv_goto (tgt := 143) hx hb dX5_isFilm_139 (by decide) ?_
                      exact W.iret (v := nI 1) hx hb hr (fun t ht hW => ⟨⟨nI 1, (oA u 26 g46, lt, sj), rfl, ⟨RepM_26 _ hRM, by rw [isfA, if_pos ⟨inR_t ha1 (by omega), inR_t hjs31 (by omega)⟩, if_neg (nI_pos (by omega)), vN_n' (j := n2) (by omega), if_pos hE, vN_n (j := a1) (by omega), vN_n (j := js31) (by omega), vN_n (j := ji31) (by omega), if_pos (isf_t (hct.symm.trans (hxx.resolve_right (fun q => c135 q.1)).2.1) (fun q h9 => (hxx.resolve_right (fun q => c135 q.1)).2.2 q (by first | omega | exact absurd c81 c135)))]; rfl⟩, show PP G (mw G h (oA u 26 g46) lt sj) t.heap by rw [ht]; exact hP⟩, hS.F ht⟩) hS.2.2 dX5_isFilm_143
                  · skip
                    obtain ⟨hx81, hcn81, hal81⟩ := hxx.resolve_right (fun q => c81 q.1)
                    refine lv_aload_n hx hb dX5_isFilm_84 rfl (lv_at hl 0 rfl) ?_
                    refine va_get (D := gD G) (ci := 5) (v := .ref (h 34)) (C := RX5) (T := TX5) (N := 38) hx hb hts hiX5 hown hK hP 0 rfl rfl 34 (by decide) k78 (fun _ h9 => h9) rfl dX5_isFilm_85 ?_
                    refine lv_bipush (v := nI 40) hx hb dX5_isFilm_88 (by decide) ?_
                    refine lv_iload_n hx hb dX5_isFilm_90 rfl (lv_at hl 1 rfl) ?_
                    refine lv_imul hx hb dX5_isFilm_91 ?_
                    refine topE (y := nI (40 * js31)) (pk_mul 40 js31) ?_
                    refine lv_iload_n hx hb dX5_isFilm_92 rfl (lv_at hl 2 rfl) ?_
                    refine lv_iadd hx hb dX5_isFilm_93 ?_
                    refine topE (y := nI ((40 * js31) + ji31)) (nI_add (40 * js31) ji31) ?_
                    refine lv_iload hx hb dX5_isFilm_94 (lv_at hl 6 rfl) ?_
                    refine lv_iadd hx hb dX5_isFilm_96 ?_
                    refine topE (y := nI (((40 * js31) + ji31) + k)) (nI_add ((40 * js31) + ji31) k) ?_
                    refine laldN (f := sj) (n := 160) (k := ((40 * js31) + ji31) + k) hx hb hK hP 22 rfl rfl (by omega) dX5_isFilm_97 ?_
                    refine lv_ldc2 (v := 255) hx hb hown (hts (.constantLong RX5 98 (255)) (List.mem_of_getElem? (i := 4) rfl)) dX5_isFilm_98 ?_
                    refine lv_land hx hb dX5_isFilm_101 ?_
                    refine lv_aload_n hx hb dX5_isFilm_102 rfl (lv_at hl 0 rfl) ?_
                    refine va_get (D := gD G) (ci := 5) (v := .ref (h 5)) (C := RX5) (T := TX5) (N := 38) hx hb hts hiX5 hown hK hP 0 rfl rfl 5 (by decide) k19 (fun _ h9 => h9) rfl dX5_isFilm_103 ?_
                    refine lv_aload_n hx hb dX5_isFilm_106 rfl (lv_at hl 0 rfl) ?_
                    refine lv_iload hx hb dX5_isFilm_107 (lv_at hl 4 rfl) ?_
                    refine lv_iload hx hb dX5_isFilm_109 (lv_at hl 6 rfl) ?_
                    refine cRi (w := mw G h (oA u 26 g46) lt sj) (As := [.int (chV (u.2 1) (u.2 2) (u.2 3) (nI a1)), .int (nI k)]) (rest := [.ref (h 5), .long ((sj (((40 * js31) + ji31) + k)) &&& 255)]) ⟨hx, hb, hml, hown, hts⟩ (mt_X5_lineAt l G h (oA u 26 g46) lt sj (sg.1 4) (chV (u.2 1) (u.2 2) (u.2 3) (nI a1)) k (hnl) (by first | assumption | omega) (by omega)) (cwV 2 hts gX5_isFilm_X5_lineAt rfl rfl rfl ⟨rfl, hd_X5_lineAt⟩ ⟨Nat.le_of_ble_eq_true rfl, Nat.le_of_ble_eq_true rfl⟩) hK hN hP 0 5 rfl rfl rfl hl.1 rfl (Nat.le_of_ble_eq_true rfl) ⟨Nat.zero_le _, Nat.zero_le _⟩ dX5_isFilm_111 (fun r111 hw111 => ?_)
                    rcases hw111 with ⟨i111, hi111, hp111, hq111, rfl⟩ | ⟨hq111, rfl⟩
                    · skip
                      have e111 : fndN (sdS sg (cvS sg a1)) (sg.1 4) k = i111 := fndMv hRM hIS ha1 hi111 hp111 hq111
                      have e112 : sj (40 * js31 + ji31 + k) = zz js31 (ji31 + k) := (congrArg sj (Nat.add_assoc _ _ _)).trans (hzv (ji31 + k) (by omega))
                      refine ialdN (f := u.2 5) (n := 120) (k := i111) hx hb hK hP 4 rfl rfl (by omega) dX5_isFilm_114 ?_
                      refine lv_i2l (v := ((u.2 5) i111).toInt64) hx hb dX5_isFilm_115 rfl ?_
                      refine W.lcmp hx hb dX5_isFilm_116 ?_
                      refine lv_if_ne (tgt := 124) hx hb dX5_isFilm_117 (by decide) (fun c117 => ?_) (fun c117 => ?_)
                      · skip
                        have n117 : ¬ (((sj (((40 * js31) + ji31) + k)) &&& 255) = (((u.2 5) i111).toInt64)) := fun q9 => c117 ((lg_cmp_eq _ _).mpr q9)
                        refine lv_iconst (v := nI 0) hx hb dX5_isFilm_124 (by decide) ?_
                        refine lv_istore (lv' := [(7, .int (nI 0)), (0, .ref (h 0)), (2, .int (nI js31)), (3, .int (nI ji31)), (4, .int (nI n2)), (6, .int (chV (u.2 1) (u.2 2) (u.2 3) (nI a1))), (8, .int (nI k))]) hx hb dX5_isFilm_125 hl (by decide) rfl (fun ls hl => ?_)
                        refine lv_iinc (v := nI (k + 1)) (lv' := [(8, .int (nI (k + 1))), (7, .int (nI 0)), (0, .ref (h 0)), (2, .int (nI js31)), (3, .int (nI ji31)), (4, .int (nI n2)), (6, .int (chV (u.2 1) (u.2 2) (u.2 3) (nI a1)))]) hx hb dX5_isFilm_127 hl (k := 6) rfl (nI_1 k) (by decide) rfl (fun ls hl => ?_)
                        refine lv_goto (tgt := 72) hx hb dX5_isFilm_130 (by decide) ?_
                        exact ih72 (k + 1) (nI 0) (by first | assumption | omega) (Or.inr ⟨rfl, isf_f2 (k := k) (by omega) (by rw [e111, ← e112, ← hC.2.2.2.2.2.1 i111 hi111]; exact n117)⟩) (by omega) _ _ ls hP hD hS (lv_sub hl [2, 3, 4, 5, 6, 1, 0] rfl)
                      · skip
                        have n117 : ((sj (((40 * js31) + ji31) + k)) &&& 255) = (((u.2 5) i111).toInt64) := (lg_cmp_eq _ _).mp c117
                        refine lv_iconst (v := nI 1) hx hb dX5_isFilm_120 (by decide) ?_
                        refine lv_goto (tgt := 125) hx hb dX5_isFilm_121 (by decide) ?_
                        refine lv_istore (lv' := [(7, .int (nI 1)), (0, .ref (h 0)), (2, .int (nI js31)), (3, .int (nI ji31)), (4, .int (nI n2)), (6, .int (chV (u.2 1) (u.2 2) (u.2 3) (nI a1))), (8, .int (nI k))]) hx hb dX5_isFilm_125 hl (by decide) rfl (fun ls hl => ?_)
                        refine lv_iinc (v := nI (k + 1)) (lv' := [(8, .int (nI (k + 1))), (7, .int (nI 1)), (0, .ref (h 0)), (2, .int (nI js31)), (3, .int (nI ji31)), (4, .int (nI n2)), (6, .int (chV (u.2 1) (u.2 2) (u.2 3) (nI a1)))]) hx hb dX5_isFilm_127 hl (k := 6) rfl (nI_1 k) (by decide) rfl (fun ls hl => ?_)
                        refine lv_goto (tgt := 72) hx hb dX5_isFilm_130 (by decide) ?_
                        exact ih72 (k + 1) (nI 1) (by first | assumption | omega) (Or.inl ⟨rfl, hcn81, fun q h9 => by by_cases e9 : q = k; (rw [e9, e111, ← e112, ← hC.2.2.2.2.2.1 i111 hi111]; exact n117); exact hal81 q (by omega)⟩) (by omega) _ _ ls hP hD hS (lv_sub hl [2, 3, 4, 5, 6, 1, 0] rfl)
                    · skip
                      exact absurd (show cnt (sdb (u.2 6) (u.2 7) (chV (u.2 1) (u.2 2) (u.2 3) (nI a1))) (sg.1 4) ≤ k from hq111) (by rw [hcn81]; exact n76)
            exact LP72 (n2 - 0 + 1) 0 (nI 1) (by first | assumption | omega) (Or.inl ⟨rfl, n59, fun q h9 => absurd h9 (Nat.not_lt_zero q)⟩) (Nat.lt_succ_self _) _ _ ls hP hD hS (lv_sub hl [4, 6, 7, 8, 2, 1, 0] rfl)
        · skip
          have hE : refS sg s1 i1 (n2) = aUNK := ref_unk hnu31
          refine lv_istore (lv' := [(5, .int (-1000000001 : Int32)), (0, .ref (h 0)), (1, .int (nI a1)), (2, .int s1), (3, .int i1), (4, .int (nI n2))]) hx hb dX5_isFilm_34 hl (by decide) rfl (fun ls hl => ?_)
          refine lv_iload hx hb dX5_isFilm_36 (lv_at hl 0 rfl) ?_
          refine lv_if_eq (tgt := 44) hx hb dX5_isFilm_38 (by decide) (fun c9 => absurd c9 (by decide)) (fun _ => ?_)
          refine lv_iload hx hb dX5_isFilm_41 (lv_at hl 0 rfl) ?_
          exact W.iret (v := (-1000000001 : Int32)) hx hb hr (fun t ht hW => ⟨⟨(-1000000001 : Int32), (u, lt, sj), rfl, ⟨hRM, by rw [isfA, if_pos ⟨inR_t ha1 (by omega), (show inR s1 4 = true from by rw [ej9]; exact inR_t hj9 (by omega))⟩, if_neg (nI_pos (by omega)), vN_n' (j := n2) (by omega), if_neg (show ¬ refS sg s1 i1 n2 = 0 from by rw [hE]; decide), hE]⟩, show PP G (mw G h u lt sj) t.heap by rw [ht]; exact hP⟩, hS.F ht⟩) hS.2.2 dX5_isFilm_43
        · skip
          have hE : refS sg s1 i1 (n2) = aNULL := by rw [ejs31]; exact ref_nul hjs31 (ShM.no hRM.2.2.2.2.2.2.2.2.2 hjs31 hth31)
          refine lv_istore (lv' := [(5, .int (-1000000011 : Int32)), (0, .ref (h 0)), (1, .int (nI a1)), (2, .int s1), (3, .int i1), (4, .int (nI n2))]) hx hb dX5_isFilm_34 hl (by decide) rfl (fun ls hl => ?_)
          refine lv_iload hx hb dX5_isFilm_36 (lv_at hl 0 rfl) ?_
          refine lv_if_eq (tgt := 44) hx hb dX5_isFilm_38 (by decide) (fun c9 => absurd c9 (by decide)) (fun _ => ?_)
          refine lv_iload hx hb dX5_isFilm_41 (lv_at hl 0 rfl) ?_
          exact W.iret (v := (-1000000011 : Int32)) hx hb hr (fun t ht hW => ⟨⟨(-1000000011 : Int32), (u, lt, sj), rfl, ⟨hRM, by rw [isfA, if_pos ⟨inR_t ha1 (by omega), (show inR s1 4 = true from by rw [ej9]; exact inR_t hj9 (by omega))⟩, if_neg (nI_pos (by omega)), vN_n' (j := n2) (by omega), if_neg (show ¬ refS sg s1 i1 n2 = 0 from by rw [hE]; decide), hE]⟩, show PP G (mw G h u lt sj) t.heap by rw [ht]; exact hP⟩, hS.F ht⟩) hS.2.2 dX5_isFilm_43
        · skip
          have hE : refS sg s1 i1 (n2) = aPLC := by rw [ejs31]; exact ref_plc hjs31 (ShM.sz hRM.2.2.2.2.2.2.2.2.2 hIS hjs31 hth31 hz31 ez31).1 hpl31
          refine lv_istore (lv' := [(5, .int (-1000000012 : Int32)), (0, .ref (h 0)), (1, .int (nI a1)), (2, .int s1), (3, .int i1), (4, .int (nI n2))]) hx hb dX5_isFilm_34 hl (by decide) rfl (fun ls hl => ?_)
          refine lv_iload hx hb dX5_isFilm_36 (lv_at hl 0 rfl) ?_
          refine lv_if_eq (tgt := 44) hx hb dX5_isFilm_38 (by decide) (fun c9 => absurd c9 (by decide)) (fun _ => ?_)
          refine lv_iload hx hb dX5_isFilm_41 (lv_at hl 0 rfl) ?_
          exact W.iret (v := (-1000000012 : Int32)) hx hb hr (fun t ht hW => ⟨⟨(-1000000012 : Int32), (u, lt, sj), rfl, ⟨hRM, by rw [isfA, if_pos ⟨inR_t ha1 (by omega), (show inR s1 4 = true from by rw [ej9]; exact inR_t hj9 (by omega))⟩, if_neg (nI_pos (by omega)), vN_n' (j := n2) (by omega), if_neg (show ¬ refS sg s1 i1 n2 = 0 from by rw [hE]; decide), hE]⟩, show PP G (mw G h u lt sj) t.heap by rw [ht]; exact hP⟩, hS.F ht⟩) hS.2.2 dX5_isFilm_43
      · skip
        refine lv_ldc (v := (-1000000002 : Int32)) hx hb hown (hts (.constant RX5 100 (-1000000002)) (List.mem_of_getElem? (i := 2) rfl)) dX5_isFilm_23 ?_
        exact W.iret (v := (-1000000002 : Int32)) hx hb hr (fun t ht hW => ⟨⟨(-1000000002 : Int32), (u, lt, sj), rfl, ⟨hRM, by rw [isfA, if_pos ⟨inR_t ha1 (by omega), (show inR s1 4 = true from by rw [ej9]; exact inR_t hj9 (by omega))⟩, if_pos (Int32.not_le.mp c20)]⟩, show PP G (mw G h u lt sj) t.heap by rw [ht]; exact hP⟩, hS.F ht⟩) hS.2.2 dX5_isFilm_25
    · skip
      refine lv_if_ne (tgt := 18) hx hb dX5_isFilm_12 (by decide) (fun c9 => absurd (by decide) c9) (fun _ => ?_)
      refine lv_ldc (v := (-1000000001 : Int32)) hx hb hown (hts (.constant RX5 216 (-1000000001)) (List.mem_of_getElem? (i := 1) rfl)) dX5_isFilm_15 ?_
      exact W.iret (v := (-1000000001 : Int32)) hx hb hr (fun t ht hW => ⟨⟨(-1000000001 : Int32), (u, lt, sj), rfl, ⟨hRM, by rw [isfA, if_neg (fun q => by first | exact inR_f (by omega) hna1 q.1 | exact inR_f (by omega) hn9 q.2)]⟩, show PP G (mw G h u lt sj) t.heap by rw [ht]; exact hP⟩, hS.F ht⟩) hS.2.2 dX5_isFilm_17
  · skip
    refine lv_if_eq (tgt := 15) hx hb dX5_isFilm_5 (by decide) (fun _ => ?_) (fun c9 => absurd (by decide) c9)
    refine lv_ldc (v := (-1000000001 : Int32)) hx hb hown (hts (.constant RX5 216 (-1000000001)) (List.mem_of_getElem? (i := 1) rfl)) dX5_isFilm_15 ?_
    exact W.iret (v := (-1000000001 : Int32)) hx hb hr (fun t ht hW => ⟨⟨(-1000000001 : Int32), (u, lt, sj), rfl, ⟨hRM, by rw [isfA, if_neg (fun q => by first | exact inR_f (by omega) hna1 q.1 | exact inR_f (by omega) hn9 q.2)]⟩, show PP G (mw G h u lt sj) t.heap by rw [ht]; exact hP⟩, hS.F ht⟩) hS.2.2 dX5_isFilm_17
set_option maxHeartbeats 1000000 in
set_option maxRecDepth 100000 in
theorem mt_X5_keepS (l : Launch) (G : gG) (h : Nat → Nat) (sz : Nat) (u : oS) (lt : Int64) (sj : Nat → Int64) (sg : pS) (zz : Nat → Nat → Int64) (i : Int32) (nh : Nat) (hI : MIx u (sg.1 0) (sg.1 4) (sg.1 10) nh) (hIS : IS sg) (hRM : RepM u sj sg zz) : Met l yX5_keep wsX5_keep ({ frames := 1, cells := 0, slots := 0, locals := 25 }) (preW G (mw G h u lt sj) sz [.ref (h 0), .int i]) (va_Qi (fun (r : Int32) (v : oS × Int64 × (Nat → Int64)) => RepM v.1 v.2.2 (keeF sg i) (zz) ∧ r = keeA sg i) (fun v t => PP G (mw G h v.1 v.2.1 v.2.2) t.heap) (va_A (mw G h u lt sj) sz)) 0 0 (va_A (mw G h u lt sj) sz) := by
  refine Met.ofW (cc := cX5_keep) (maxL := 4) (ret := (some .int)) (by decide) rfl ?_
  intro p e s m args below meth c s₁ B hml hv
  obtain ⟨ha, hsz, hP, hK, hN, hD0⟩ := hv
  subst ha
  have hx := B.exec
  have hb := B.bytes
  have hr := B.returns
  have hts := atoms_spec (ws := wsX5_keep) B.pre
  have hown : s.vm.findClass RX5 = some m.cls := findClass_of_methodNamed B.named
  have hlocks := B.notSynchronized
  subst hsz
  have hD := hD0.self (sz := s.heap.size)
  generalize hAe : va_A (mw G h u lt sj) s.heap.size = A at hD ⊢
  have hA : ∀ q : Nat, s.heap.size ≤ q → A q := fun q h => by rw [← hAe]; exact Or.inr h
  clear hAe hD0
  have hS : va_S A s.heap s.heap [] := va_S.rf
  have hiX5 : ∀ w ∈ wsX50, w ∈ wsX5_keep := fun w h9 => List.mem_cons_of_mem _ (List.mem_append_right _ (h9))
  have k178 := hts (.fieldLink RX5 178 "WovenHistoryModel" "isOpen" "Z") (List.mem_of_getElem? (i := 2) rfl)
  have k82 := hts (.fieldLink RX5 82 "WovenHistoryModel" "keptVersions" "[I") (List.mem_of_getElem? (i := 4) rfl)
  have k91 := hts (.fieldLink RX5 91 "WovenHistoryModel" "versions" "I") (List.mem_of_getElem? (i := 5) rfl)
  have k85 := hts (.fieldLink RX5 85 "WovenHistoryModel" "keptLines" "[I") (List.mem_of_getElem? (i := 6) rfl)
  have k175 := hts (.fieldLink RX5 175 "WovenHistoryModel" "lines" "I") (List.mem_of_getElem? (i := 7) rfl)
  have k88 := hts (.fieldLink RX5 88 "WovenHistoryModel" "images" "[I") (List.mem_of_getElem? (i := 8) rfl)
  have k7 := hts (.fieldLink RX5 7 "WovenHistoryModel" "parent" "[I") (List.mem_of_getElem? (i := 9) rfl)
  have k13 := hts (.fieldLink RX5 13 "WovenHistoryModel" "includes" "[I") (List.mem_of_getElem? (i := 10) rfl)
  have k16 := hts (.fieldLink RX5 16 "WovenHistoryModel" "excludes" "[I") (List.mem_of_getElem? (i := 11) rfl)
  have k19 := hts (.fieldLink RX5 19 "WovenHistoryModel" "letter" "[I") (List.mem_of_getElem? (i := 12) rfl)
  have k22 := hts (.fieldLink RX5 22 "WovenHistoryModel" "brought" "[I") (List.mem_of_getElem? (i := 13) rfl)
  have k25 := hts (.fieldLink RX5 25 "WovenHistoryModel" "took" "[I") (List.mem_of_getElem? (i := 14) rfl)
  have hl := lv_entry ([.ref (h 0), .int i]) (n := 4) (Nat.le_of_ble_eq_true rfl)
  rw [lg_entry_eq]
  generalize (lg_sl ([.ref (h 0), .int i]) ++ List.replicate (4 - (lg_sl ([.ref (h 0), .int i])).length) Slot.unset).toArray = ls at hl ⊢
  have hl : lv_has ls 4 [(0, .ref (h 0)), (1, .int i)] := hl
  have hC := hRM.1
  have hic := hIS.ic
  have hle8 := hIS.2.2.1
  have h8e := hRM.2.1
  have hI0 := hI
  obtain ⟨hnv, hnl, hnt, hnh, hnv24, hnl120, hnt240, hnh120, hop, hopn, hparV, hsz4, himg⟩ := hI
  refine lv_iload_n hx hb dX5_keep_0 rfl (lv_at hl 1 rfl) ?_
  refine lv_i2l (v := i.toInt64) hx hb dX5_keep_1 rfl ?_
  refine lv_lconst (v := 0) hx hb dX5_keep_2 (by decide) ?_
  refine lv_lconst (v := 1) hx hb dX5_keep_3 (by decide) ?_
  refine cSi (As := [.long i.toInt64, .long 0, .long 1]) (rest := []) ⟨hx, hb, hml, hown, hts⟩ (mt_X5_in l i.toInt64 0 1) (va_cwS 3 hts gX5_keep_X5_in rfl rfl rfl hd_X5_in ⟨Nat.le_of_ble_eq_true rfl, Nat.le_of_ble_eq_true rfl⟩) rfl hl.1 rfl (Nat.le_of_ble_eq_true rfl) ⟨Nat.zero_le _, Nat.zero_le _⟩ dX5_keep_4 (fun r4 hw4 => ?_)
  rcases hw4 with ⟨rfl, ha4, hb4⟩ | ⟨rfl, hn4⟩
  · skip
    obtain ⟨i1, hi0, hi1, rfl⟩ := rng_y (a := 0) (b := 1) (by decide) (by decide) (by omega) ha4 hb4
    refine lv_if_ne (tgt := 13) hx hb dX5_keep_7 (by decide) (fun _ => ?_) (fun c9 => absurd c9 (by decide))
    refine lv_aload_n hx hb dX5_keep_13 rfl (lv_at hl 0 rfl) ?_
    refine va_get (D := gD G) (ci := 5) (v := .int (u.1 8)) (C := RX5) (T := TX5) (N := 38) hx hb hts hiX5 hown hK hP 0 rfl rfl 8 (by decide) k178 (fun _ h9 => h9) rfl dX5_keep_14 ?_
    refine lv_if_eq (tgt := 23) hx hb dX5_keep_17 (by decide) (fun c17 => ?_) (fun c17 => ?_)
    · skip
      refine lv_sipush (v := nI 432) hx hb dX5_keep_23 (by decide) ?_
      refine lv_iload_n hx hb dX5_keep_26 rfl (lv_at hl 1 rfl) ?_
      refine lv_imul hx hb dX5_keep_27 ?_
      refine topE (y := nI (432 * i1)) (pk_mul 432 i1) ?_
      refine lv_istore_n (lv' := [(2, .int (nI (432 * i1))), (0, .ref (h 0)), (1, .int (nI i1))]) hx hb dX5_keep_28 rfl hl (by decide) rfl (fun ls hl => ?_)
      refine lv_aload_n hx hb dX5_keep_29 rfl (lv_at hl 1 rfl) ?_
      refine va_get (D := gD G) (ci := 5) (v := .ref (h 35)) (C := RX5) (T := TX5) (N := 38) hx hb hts hiX5 hown hK hP 0 rfl rfl 35 (by decide) k82 (fun _ h9 => h9) rfl dX5_keep_30 ?_
      refine lv_iload_n hx hb dX5_keep_33 rfl (lv_at hl 2 rfl) ?_
      refine lv_aload_n hx hb dX5_keep_34 rfl (lv_at hl 1 rfl) ?_
      refine va_get (D := gD G) (ci := 5) (v := .int (u.1 0)) (C := RX5) (T := TX5) (N := 38) hx hb hts hiX5 hown hK hP 0 rfl rfl 0 (by decide) k91 (fun _ h9 => h9) rfl dX5_keep_35 ?_
      refine topE hnv ?_
      refine iastN (f := u.2 35) (n := 2) (k := i1) hx hb hK hP hD hS 23 rfl rfl (by omega) dX5_keep_38 (fun H locs hP hD hS => ?_)
      have hP : PP G (mw G h (oA u 35 (upd (u.2 35) i1 (nI (sg.1 0)))) lt sj) H := hP
      have hD : va_D A (mw G h (oA u 35 (upd (u.2 35) i1 (nI (sg.1 0)))) lt sj) := hD
      refine lv_aload_n hx hb dX5_keep_39 rfl (lv_at hl 1 rfl) ?_
      refine va_get (D := gD G) (ci := 5) (v := .ref (h 36)) (C := RX5) (T := TX5) (N := 38) hx hb hts hiX5 hown hK hP 0 rfl rfl 36 (by decide) k85 (fun _ h9 => h9) rfl dX5_keep_40 ?_
      refine lv_iload_n hx hb dX5_keep_43 rfl (lv_at hl 2 rfl) ?_
      refine lv_aload_n hx hb dX5_keep_44 rfl (lv_at hl 1 rfl) ?_
      refine va_get (D := gD G) (ci := 5) (v := .int ((oA u 35 (upd (u.2 35) i1 (nI (sg.1 0)))).1 4)) (C := RX5) (T := TX5) (N := 38) hx hb hts hiX5 hown hK hP 0 rfl rfl 4 (by decide) k175 (fun _ h9 => h9) rfl dX5_keep_45 ?_
      refine topE hnl ?_
      refine iastN (f := (oA u 35 (upd (u.2 35) i1 (nI (sg.1 0)))).2 36) (n := 2) (k := i1) hx hb hK hP hD hS 24 rfl rfl (by omega) dX5_keep_48 (fun H locs hP hD hS => ?_)
      have hP : PP G (mw G h (oA (oA u 35 (upd (u.2 35) i1 (nI (sg.1 0)))) 36 (upd ((oA u 35 (upd (u.2 35) i1 (nI (sg.1 0)))).2 36) i1 (nI (sg.1 4)))) lt sj) H := hP
      have hD : va_D A (mw G h (oA (oA u 35 (upd (u.2 35) i1 (nI (sg.1 0)))) 36 (upd ((oA u 35 (upd (u.2 35) i1 (nI (sg.1 0)))).2 36) i1 (nI (sg.1 4)))) lt sj) := hD
      refine lv_iconst (v := nI 0) hx hb dX5_keep_49 (by decide) ?_
      refine lv_istore_n (lv' := [(3, .int (nI 0)), (2, .int (nI (432 * i1))), (0, .ref (h 0)), (1, .int (nI i1))]) hx hb dX5_keep_50 rfl hl (by decide) rfl (fun ls hl => ?_)
      have LP51 : ∀ (n51m : Nat), ∀ (k : Nat) (ff : Nat → Int32) (hk : k ≤ sg.1 0) (hf : imgF ff (u.2 37) i1 (u.2 1) (u.2 2) (u.2 3) (u.2 5) (u.2 6) (u.2 7) k 0), (sg.1 0 - k < n51m) → ∀ (H : Heap) (locs : List Loc) (ls : Array Slot), PP G (mw G h (oA (oA (oA u 35 (upd (u.2 35) i1 (nI (sg.1 0)))) 36 (upd (u.2 36) i1 (nI (sg.1 4)))) 37 ff) lt sj) H → va_D A (mw G h (oA (oA (oA u 35 (upd (u.2 35) i1 (nI (sg.1 0)))) 36 (upd (u.2 36) i1 (nI (sg.1 4)))) 37 ff) lt sj) → va_S A s.heap H locs → lv_has ls 4 [(0, .ref (h 0)), (1, .int (nI i1)), (2, .int (nI (432 * i1))), (3, .int (nI k))] → W p l e (headSpec wsX5_keep ({ frames := 1, cells := 0, slots := 0, locals := 25 })).room s m ([.ref (h 0), .int (nI i1)] : List Value).toArray below meth c H locs 0 0 (MQ below (va_Qi (fun (r : Int32) (v : oS × Int64 × (Nat → Int64)) => RepM v.1 v.2.2 (keeF sg (nI i1)) (zz) ∧ r = keeA sg (nI i1)) (fun v t => PP G (mw G h v.1 v.2.1 v.2.2) t.heap) A) ([.ref (h 0), .int (nI i1)] : List Value).toArray s 0 0 A) (F0 m 51 ls []) := by
        intro n51m
        induction n51m with
        | zero => intro k ff hk hf hmu H locs ls hP hD hS hl; exact absurd hmu (Nat.not_lt_zero _)
        | succ n51m ih51 =>
          intro k ff hk hf hmu H locs ls hP hD hS hl
          refine lv_iload_n hx hb dX5_keep_51 rfl (lv_at hl 3 rfl) ?_
          refine lv_aload_n hx hb dX5_keep_52 rfl (lv_at hl 0 rfl) ?_
          refine va_get (D := gD G) (ci := 5) (v := .int ((oA (oA (oA u 35 (upd (u.2 35) i1 (nI (sg.1 0)))) 36 (upd (u.2 36) i1 (nI (sg.1 4)))) 37 ff).1 0)) (C := RX5) (T := TX5) (N := 38) hx hb hts hiX5 hown hK hP 0 rfl rfl 0 (by decide) k91 (fun _ h9 => h9) rfl dX5_keep_53 ?_
          refine topE hnv ?_
          refine lv_icmp_ge (tgt := 113) hx hb dX5_keep_56 (by decide) (fun c56 => ?_) (fun c56 => ?_)
          · skip
            have n56 : (sg.1 0) ≤ k := (nI_leI (a := sg.1 0) (b := k) (by omega) (by omega)).mp c56
            refine lv_iconst (v := nI 0) hx hb dX5_keep_113 (by decide) ?_
            refine lv_istore_n (lv' := [(3, .int (nI 0)), (0, .ref (h 0)), (1, .int (nI i1)), (2, .int (nI (432 * i1)))]) hx hb dX5_keep_114 rfl hl (by decide) rfl (fun ls hl => ?_)
            have LP115 : ∀ (n115m : Nat), ∀ (k : Nat) (ff : Nat → Int32) (hk : k ≤ sg.1 4) (hf : imgF ff (u.2 37) i1 (u.2 1) (u.2 2) (u.2 3) (u.2 5) (u.2 6) (u.2 7) (sg.1 0) k), (sg.1 4 - k < n115m) → ∀ (H : Heap) (locs : List Loc) (ls : Array Slot), PP G (mw G h (oA (oA (oA u 35 (upd (u.2 35) i1 (nI (sg.1 0)))) 36 (upd (u.2 36) i1 (nI (sg.1 4)))) 37 ff) lt sj) H → va_D A (mw G h (oA (oA (oA u 35 (upd (u.2 35) i1 (nI (sg.1 0)))) 36 (upd (u.2 36) i1 (nI (sg.1 4)))) 37 ff) lt sj) → va_S A s.heap H locs → lv_has ls 4 [(0, .ref (h 0)), (1, .int (nI i1)), (2, .int (nI (432 * i1))), (3, .int (nI k))] → W p l e (headSpec wsX5_keep ({ frames := 1, cells := 0, slots := 0, locals := 25 })).room s m ([.ref (h 0), .int (nI i1)] : List Value).toArray below meth c H locs 0 0 (MQ below (va_Qi (fun (r : Int32) (v : oS × Int64 × (Nat → Int64)) => RepM v.1 v.2.2 (keeF sg (nI i1)) (zz) ∧ r = keeA sg (nI i1)) (fun v t => PP G (mw G h v.1 v.2.1 v.2.2) t.heap) A) ([.ref (h 0), .int (nI i1)] : List Value).toArray s 0 0 A) (F0 m 115 ls []) := by
              intro n115m
              induction n115m with
              | zero => intro k ff hk hf hmu H locs ls hP hD hS hl; exact absurd hmu (Nat.not_lt_zero _)
              | succ n115m ih115 =>
                intro k ff hk hf hmu H locs ls hP hD hS hl
                refine lv_iload_n hx hb dX5_keep_115 rfl (lv_at hl 3 rfl) ?_
                refine lv_aload_n hx hb dX5_keep_116 rfl (lv_at hl 0 rfl) ?_
                refine va_get (D := gD G) (ci := 5) (v := .int ((oA (oA (oA u 35 (upd (u.2 35) i1 (nI (sg.1 0)))) 36 (upd (u.2 36) i1 (nI (sg.1 4)))) 37 ff).1 4)) (C := RX5) (T := TX5) (N := 38) hx hb hts hiX5 hown hK hP 0 rfl rfl 4 (by decide) k175 (fun _ h9 => h9) rfl dX5_keep_117 ?_
                refine topE hnl ?_
                refine lv_icmp_ge (tgt := 182) hx hb dX5_keep_120 (by decide) (fun c120 => ?_) (fun c120 => ?_)
                · skip
                  have n120 : (sg.1 4) ≤ k := (nI_leI (a := sg.1 4) (b := k) (by omega) (by omega)).mp c120
                  refine lv_aload_n hx hb dX5_keep_182 rfl (lv_at hl 0 rfl) ?_
                  refine va_get (D := gD G) (ci := 5) (v := .int ((oA (oA (oA u 35 (upd (u.2 35) i1 (nI (sg.1 0)))) 36 (upd (u.2 36) i1 (nI (sg.1 4)))) 37 ff).1 0)) (C := RX5) (T := TX5) (N := 38) hx hb hts hiX5 hown hK hP 0 rfl rfl 0 (by decide) k91 (fun _ h9 => h9) rfl dX5_keep_183 ?_
                  refine topE hnv ?_
                  exact W.iret (v := nI (sg.1 0)) hx hb hr (fun t ht hW => ⟨⟨nI (sg.1 0), (oA (oA (oA u 35 (upd (u.2 35) i1 (nI (sg.1 0)))) 36 (upd (u.2 36) i1 (nI (sg.1 4)))) 37 ff, lt, sj), rfl, ⟨by rw [keeF, if_neg (show ¬ ¬ inR (nI i1) 2 = true from not_not_intro (inR_t (by omega) (by omega))), if_neg (not_not_intro (nI_z (by omega) (h8e.symm.trans c17))), vN_n (j := i1) (by omega)]; exact RepM_kee hRM hIS (nI_z (by omega) (h8e.symm.trans c17)) (by omega) (show imgF ff (u.2 37) i1 (u.2 1) (u.2 2) (u.2 3) (u.2 5) (u.2 6) (u.2 7) (sg.1 0) (sg.1 4) from (show k = sg.1 4 by omega) ▸ hf), by rw [keeA, if_neg (show ¬ ¬ inR (nI i1) 2 = true from not_not_intro (inR_t (by omega) (by omega))), if_neg (not_not_intro (nI_z (by omega) (h8e.symm.trans c17)))]⟩, show PP G (mw G h (oA (oA (oA u 35 (upd (u.2 35) i1 (nI (sg.1 0)))) 36 (upd (u.2 36) i1 (nI (sg.1 4)))) 37 ff) lt sj) t.heap by rw [ht]; exact hP⟩, hS.F ht⟩) hS.2.2 dX5_keep_186
                · skip
                  have n120 : ¬ ((sg.1 4) ≤ k) := fun q9 => c120 ((nI_leI (a := sg.1 4) (b := k) (by omega) (by omega)).mpr q9)
                  refine lv_aload_n hx hb dX5_keep_123 rfl (lv_at hl 0 rfl) ?_
                  refine va_get (D := gD G) (ci := 5) (v := .ref (h 37)) (C := RX5) (T := TX5) (N := 38) hx hb hts hiX5 hown hK hP 0 rfl rfl 37 (by decide) k88 (fun _ h9 => h9) rfl dX5_keep_124 ?_
                  refine lv_iload_n hx hb dX5_keep_127 rfl (lv_at hl 2 rfl) ?_
                  refine lv_bipush (v := nI 72) hx hb dX5_keep_128 (by decide) ?_
                  refine lv_iadd hx hb dX5_keep_130 ?_
                  refine topE (y := nI ((432 * i1) + 72)) (nI_add (432 * i1) 72) ?_
                  refine lv_iload_n hx hb dX5_keep_131 rfl (lv_at hl 3 rfl) ?_
                  refine lv_iadd hx hb dX5_keep_132 ?_
                  refine topE (y := nI (((432 * i1) + 72) + k)) (nI_add ((432 * i1) + 72) k) ?_
                  refine lv_aload_n hx hb dX5_keep_133 rfl (lv_at hl 0 rfl) ?_
                  refine va_get (D := gD G) (ci := 5) (v := .ref (h 5)) (C := RX5) (T := TX5) (N := 38) hx hb hts hiX5 hown hK hP 0 rfl rfl 5 (by decide) k19 (fun _ h9 => h9) rfl dX5_keep_134 ?_
                  refine lv_iload_n hx hb dX5_keep_137 rfl (lv_at hl 3 rfl) ?_
                  refine ialdN (f := u.2 5) (n := 120) (k := k) hx hb hK hP 4 rfl rfl (by omega) dX5_keep_138 ?_
                  refine iastN (f := ff) (n := 864) (k := ((432 * i1) + 72) + k) hx hb hK hP hD hS 25 rfl rfl (by omega) dX5_keep_139 (fun H locs hP hD hS => ?_)
                  have hP : PP G (mw G h (oA (oA (oA (oA u 35 (upd (u.2 35) i1 (nI (sg.1 0)))) 36 (upd (u.2 36) i1 (nI (sg.1 4)))) 37 ff) 37 (upd ff (((432 * i1) + 72) + k) ((u.2 5) k))) lt sj) H := hP
                  have hD : va_D A (mw G h (oA (oA (oA (oA u 35 (upd (u.2 35) i1 (nI (sg.1 0)))) 36 (upd (u.2 36) i1 (nI (sg.1 4)))) 37 ff) 37 (upd ff (((432 * i1) + 72) + k) ((u.2 5) k))) lt sj) := hD
                  refine lv_aload_n hx hb dX5_keep_140 rfl (lv_at hl 0 rfl) ?_
                  refine va_get (D := gD G) (ci := 5) (v := .ref (h 37)) (C := RX5) (T := TX5) (N := 38) hx hb hts hiX5 hown hK hP 0 rfl rfl 37 (by decide) k88 (fun _ h9 => h9) rfl dX5_keep_141 ?_
                  refine lv_iload_n hx hb dX5_keep_144 rfl (lv_at hl 2 rfl) ?_
                  refine lv_sipush (v := nI 192) hx hb dX5_keep_145 (by decide) ?_
                  refine lv_iadd hx hb dX5_keep_148 ?_
                  refine topE (y := nI ((432 * i1) + 192)) (nI_add (432 * i1) 192) ?_
                  refine lv_iload_n hx hb dX5_keep_149 rfl (lv_at hl 3 rfl) ?_
                  refine lv_iadd hx hb dX5_keep_150 ?_
                  refine topE (y := nI (((432 * i1) + 192) + k)) (nI_add ((432 * i1) + 192) k) ?_
                  refine lv_aload_n hx hb dX5_keep_151 rfl (lv_at hl 0 rfl) ?_
                  refine va_get (D := gD G) (ci := 5) (v := .ref (h 6)) (C := RX5) (T := TX5) (N := 38) hx hb hts hiX5 hown hK hP 0 rfl rfl 6 (by decide) k22 (fun _ h9 => h9) rfl dX5_keep_152 ?_
                  refine lv_iload_n hx hb dX5_keep_155 rfl (lv_at hl 3 rfl) ?_
                  refine ialdN (f := u.2 6) (n := 120) (k := k) hx hb hK hP 5 rfl rfl (by omega) dX5_keep_156 ?_
                  refine iastN (f := upd ff (((432 * i1) + 72) + k) ((u.2 5) k)) (n := 864) (k := ((432 * i1) + 192) + k) hx hb hK hP hD hS 25 rfl rfl (by omega) dX5_keep_157 (fun H locs hP hD hS => ?_)
                  have hP : PP G (mw G h (oA (oA (oA (oA (oA u 35 (upd (u.2 35) i1 (nI (sg.1 0)))) 36 (upd (u.2 36) i1 (nI (sg.1 4)))) 37 ff) 37 (upd ff (((432 * i1) + 72) + k) ((u.2 5) k))) 37 (upd (upd ff (((432 * i1) + 72) + k) ((u.2 5) k)) (((432 * i1) + 192) + k) ((u.2 6) k))) lt sj) H := hP
                  have hD : va_D A (mw G h (oA (oA (oA (oA (oA u 35 (upd (u.2 35) i1 (nI (sg.1 0)))) 36 (upd (u.2 36) i1 (nI (sg.1 4)))) 37 ff) 37 (upd ff (((432 * i1) + 72) + k) ((u.2 5) k))) 37 (upd (upd ff (((432 * i1) + 72) + k) ((u.2 5) k)) (((432 * i1) + 192) + k) ((u.2 6) k))) lt sj) := hD
                  refine lv_aload_n hx hb dX5_keep_158 rfl (lv_at hl 0 rfl) ?_
                  refine va_get (D := gD G) (ci := 5) (v := .ref (h 37)) (C := RX5) (T := TX5) (N := 38) hx hb hts hiX5 hown hK hP 0 rfl rfl 37 (by decide) k88 (fun _ h9 => h9) rfl dX5_keep_159 ?_
                  refine lv_iload_n hx hb dX5_keep_162 rfl (lv_at hl 2 rfl) ?_
                  refine lv_sipush (v := nI 312) hx hb dX5_keep_163 (by decide) ?_
                  refine lv_iadd hx hb dX5_keep_166 ?_
                  refine topE (y := nI ((432 * i1) + 312)) (nI_add (432 * i1) 312) ?_
                  refine lv_iload_n hx hb dX5_keep_167 rfl (lv_at hl 3 rfl) ?_
                  refine lv_iadd hx hb dX5_keep_168 ?_
                  refine topE (y := nI (((432 * i1) + 312) + k)) (nI_add ((432 * i1) + 312) k) ?_
                  refine lv_aload_n hx hb dX5_keep_169 rfl (lv_at hl 0 rfl) ?_
                  refine va_get (D := gD G) (ci := 5) (v := .ref (h 7)) (C := RX5) (T := TX5) (N := 38) hx hb hts hiX5 hown hK hP 0 rfl rfl 7 (by decide) k25 (fun _ h9 => h9) rfl dX5_keep_170 ?_
                  refine lv_iload_n hx hb dX5_keep_173 rfl (lv_at hl 3 rfl) ?_
                  refine ialdN (f := u.2 7) (n := 120) (k := k) hx hb hK hP 6 rfl rfl (by omega) dX5_keep_174 ?_
                  refine iastN (f := upd (upd ff (((432 * i1) + 72) + k) ((u.2 5) k)) (((432 * i1) + 192) + k) ((u.2 6) k)) (n := 864) (k := ((432 * i1) + 312) + k) hx hb hK hP hD hS 25 rfl rfl (by omega) dX5_keep_175 (fun H locs hP hD hS => ?_)
                  have hP : PP G (mw G h (oA (oA (oA (oA (oA (oA u 35 (upd (u.2 35) i1 (nI (sg.1 0)))) 36 (upd (u.2 36) i1 (nI (sg.1 4)))) 37 ff) 37 (upd ff (((432 * i1) + 72) + k) ((u.2 5) k))) 37 (upd (upd ff (((432 * i1) + 72) + k) ((u.2 5) k)) (((432 * i1) + 192) + k) ((u.2 6) k))) 37 (upd (upd (upd ff (((432 * i1) + 72) + k) ((u.2 5) k)) (((432 * i1) + 192) + k) ((u.2 6) k)) (((432 * i1) + 312) + k) ((u.2 7) k))) lt sj) H := hP
                  have hD : va_D A (mw G h (oA (oA (oA (oA (oA (oA u 35 (upd (u.2 35) i1 (nI (sg.1 0)))) 36 (upd (u.2 36) i1 (nI (sg.1 4)))) 37 ff) 37 (upd ff (((432 * i1) + 72) + k) ((u.2 5) k))) 37 (upd (upd ff (((432 * i1) + 72) + k) ((u.2 5) k)) (((432 * i1) + 192) + k) ((u.2 6) k))) 37 (upd (upd (upd ff (((432 * i1) + 72) + k) ((u.2 5) k)) (((432 * i1) + 192) + k) ((u.2 6) k)) (((432 * i1) + 312) + k) ((u.2 7) k))) lt sj) := hD
                  refine lv_iinc (v := nI (k + 1)) (lv' := [(3, .int (nI (k + 1))), (0, .ref (h 0)), (1, .int (nI i1)), (2, .int (nI (432 * i1)))]) hx hb dX5_keep_176 hl (k := 3) rfl (nI_1 k) (by decide) rfl (fun ls hl => ?_)
                  refine lv_goto (tgt := 115) hx hb dX5_keep_179 (by decide) ?_
                  exact ih115 (k + 1) (upd (upd (upd ff (((432 * i1) + 72) + k) ((u.2 5) k)) (((432 * i1) + 192) + k) ((u.2 6) k)) (((432 * i1) + 312) + k) ((u.2 7) k)) (by first | assumption | omega) (imgF_b hf (by omega) (by omega) (by omega)) (by omega) _ _ ls hP hD hS (lv_sub hl [1, 2, 3, 0] rfl)
            exact LP115 (sg.1 4 - 0 + 1) 0 ff (by first | assumption | omega) ((show k = sg.1 0 by omega) ▸ hf) (Nat.lt_succ_self _) _ _ ls hP hD hS (lv_sub hl [1, 2, 3, 0] rfl)
          · skip
            have n56 : ¬ ((sg.1 0) ≤ k) := fun q9 => c56 ((nI_leI (a := sg.1 0) (b := k) (by omega) (by omega)).mpr q9)
            refine lv_aload_n hx hb dX5_keep_59 rfl (lv_at hl 0 rfl) ?_
            refine va_get (D := gD G) (ci := 5) (v := .ref (h 37)) (C := RX5) (T := TX5) (N := 38) hx hb hts hiX5 hown hK hP 0 rfl rfl 37 (by decide) k88 (fun _ h9 => h9) rfl dX5_keep_60 ?_
            refine lv_iload_n hx hb dX5_keep_63 rfl (lv_at hl 2 rfl) ?_
            refine lv_iload_n hx hb dX5_keep_64 rfl (lv_at hl 3 rfl) ?_
            refine lv_iadd hx hb dX5_keep_65 ?_
            refine topE (y := nI ((432 * i1) + k)) (nI_add (432 * i1) k) ?_
            refine lv_aload_n hx hb dX5_keep_66 rfl (lv_at hl 0 rfl) ?_
            refine va_get (D := gD G) (ci := 5) (v := .ref (h 1)) (C := RX5) (T := TX5) (N := 38) hx hb hts hiX5 hown hK hP 0 rfl rfl 1 (by decide) k7 (fun _ h9 => h9) rfl dX5_keep_67 ?_
            refine lv_iload_n hx hb dX5_keep_70 rfl (lv_at hl 3 rfl) ?_
            refine ialdN (f := u.2 1) (n := 25) (k := k) hx hb hK hP 1 rfl rfl (by omega) dX5_keep_71 ?_
            refine iastN (f := ff) (n := 864) (k := (432 * i1) + k) hx hb hK hP hD hS 25 rfl rfl (by omega) dX5_keep_72 (fun H locs hP hD hS => ?_)
            have hP : PP G (mw G h (oA (oA (oA (oA u 35 (upd (u.2 35) i1 (nI (sg.1 0)))) 36 (upd (u.2 36) i1 (nI (sg.1 4)))) 37 ff) 37 (upd ff ((432 * i1) + k) ((u.2 1) k))) lt sj) H := hP
            have hD : va_D A (mw G h (oA (oA (oA (oA u 35 (upd (u.2 35) i1 (nI (sg.1 0)))) 36 (upd (u.2 36) i1 (nI (sg.1 4)))) 37 ff) 37 (upd ff ((432 * i1) + k) ((u.2 1) k))) lt sj) := hD
            refine lv_aload_n hx hb dX5_keep_73 rfl (lv_at hl 0 rfl) ?_
            refine va_get (D := gD G) (ci := 5) (v := .ref (h 37)) (C := RX5) (T := TX5) (N := 38) hx hb hts hiX5 hown hK hP 0 rfl rfl 37 (by decide) k88 (fun _ h9 => h9) rfl dX5_keep_74 ?_
            refine lv_iload_n hx hb dX5_keep_77 rfl (lv_at hl 2 rfl) ?_
            refine lv_bipush (v := nI 24) hx hb dX5_keep_78 (by decide) ?_
            refine lv_iadd hx hb dX5_keep_80 ?_
            refine topE (y := nI ((432 * i1) + 24)) (nI_add (432 * i1) 24) ?_
            refine lv_iload_n hx hb dX5_keep_81 rfl (lv_at hl 3 rfl) ?_
            refine lv_iadd hx hb dX5_keep_82 ?_
            refine topE (y := nI (((432 * i1) + 24) + k)) (nI_add ((432 * i1) + 24) k) ?_
            refine lv_aload_n hx hb dX5_keep_83 rfl (lv_at hl 0 rfl) ?_
            refine va_get (D := gD G) (ci := 5) (v := .ref (h 2)) (C := RX5) (T := TX5) (N := 38) hx hb hts hiX5 hown hK hP 0 rfl rfl 2 (by decide) k13 (fun _ h9 => h9) rfl dX5_keep_84 ?_
            refine lv_iload_n hx hb dX5_keep_87 rfl (lv_at hl 3 rfl) ?_
            refine ialdN (f := u.2 2) (n := 25) (k := k) hx hb hK hP 2 rfl rfl (by omega) dX5_keep_88 ?_
            refine iastN (f := upd ff ((432 * i1) + k) ((u.2 1) k)) (n := 864) (k := ((432 * i1) + 24) + k) hx hb hK hP hD hS 25 rfl rfl (by omega) dX5_keep_89 (fun H locs hP hD hS => ?_)
            have hP : PP G (mw G h (oA (oA (oA (oA (oA u 35 (upd (u.2 35) i1 (nI (sg.1 0)))) 36 (upd (u.2 36) i1 (nI (sg.1 4)))) 37 ff) 37 (upd ff ((432 * i1) + k) ((u.2 1) k))) 37 (upd (upd ff ((432 * i1) + k) ((u.2 1) k)) (((432 * i1) + 24) + k) ((u.2 2) k))) lt sj) H := hP
            have hD : va_D A (mw G h (oA (oA (oA (oA (oA u 35 (upd (u.2 35) i1 (nI (sg.1 0)))) 36 (upd (u.2 36) i1 (nI (sg.1 4)))) 37 ff) 37 (upd ff ((432 * i1) + k) ((u.2 1) k))) 37 (upd (upd ff ((432 * i1) + k) ((u.2 1) k)) (((432 * i1) + 24) + k) ((u.2 2) k))) lt sj) := hD
            refine lv_aload_n hx hb dX5_keep_90 rfl (lv_at hl 0 rfl) ?_
            refine va_get (D := gD G) (ci := 5) (v := .ref (h 37)) (C := RX5) (T := TX5) (N := 38) hx hb hts hiX5 hown hK hP 0 rfl rfl 37 (by decide) k88 (fun _ h9 => h9) rfl dX5_keep_91 ?_
            refine lv_iload_n hx hb dX5_keep_94 rfl (lv_at hl 2 rfl) ?_
            refine lv_bipush (v := nI 48) hx hb dX5_keep_95 (by decide) ?_
            refine lv_iadd hx hb dX5_keep_97 ?_
            refine topE (y := nI ((432 * i1) + 48)) (nI_add (432 * i1) 48) ?_
            refine lv_iload_n hx hb dX5_keep_98 rfl (lv_at hl 3 rfl) ?_
            refine lv_iadd hx hb dX5_keep_99 ?_
            refine topE (y := nI (((432 * i1) + 48) + k)) (nI_add ((432 * i1) + 48) k) ?_
            refine lv_aload_n hx hb dX5_keep_100 rfl (lv_at hl 0 rfl) ?_
            refine va_get (D := gD G) (ci := 5) (v := .ref (h 3)) (C := RX5) (T := TX5) (N := 38) hx hb hts hiX5 hown hK hP 0 rfl rfl 3 (by decide) k16 (fun _ h9 => h9) rfl dX5_keep_101 ?_
            refine lv_iload_n hx hb dX5_keep_104 rfl (lv_at hl 3 rfl) ?_
            refine ialdN (f := u.2 3) (n := 25) (k := k) hx hb hK hP 3 rfl rfl (by omega) dX5_keep_105 ?_
            refine iastN (f := upd (upd ff ((432 * i1) + k) ((u.2 1) k)) (((432 * i1) + 24) + k) ((u.2 2) k)) (n := 864) (k := ((432 * i1) + 48) + k) hx hb hK hP hD hS 25 rfl rfl (by omega) dX5_keep_106 (fun H locs hP hD hS => ?_)
            have hP : PP G (mw G h (oA (oA (oA (oA (oA (oA u 35 (upd (u.2 35) i1 (nI (sg.1 0)))) 36 (upd (u.2 36) i1 (nI (sg.1 4)))) 37 ff) 37 (upd ff ((432 * i1) + k) ((u.2 1) k))) 37 (upd (upd ff ((432 * i1) + k) ((u.2 1) k)) (((432 * i1) + 24) + k) ((u.2 2) k))) 37 (upd (upd (upd ff ((432 * i1) + k) ((u.2 1) k)) (((432 * i1) + 24) + k) ((u.2 2) k)) (((432 * i1) + 48) + k) ((u.2 3) k))) lt sj) H := hP
            have hD : va_D A (mw G h (oA (oA (oA (oA (oA (oA u 35 (upd (u.2 35) i1 (nI (sg.1 0)))) 36 (upd (u.2 36) i1 (nI (sg.1 4)))) 37 ff) 37 (upd ff ((432 * i1) + k) ((u.2 1) k))) 37 (upd (upd ff ((432 * i1) + k) ((u.2 1) k)) (((432 * i1) + 24) + k) ((u.2 2) k))) 37 (upd (upd (upd ff ((432 * i1) + k) ((u.2 1) k)) (((432 * i1) + 24) + k) ((u.2 2) k)) (((432 * i1) + 48) + k) ((u.2 3) k))) lt sj) := hD
            refine lv_iinc (v := nI (k + 1)) (lv' := [(3, .int (nI (k + 1))), (0, .ref (h 0)), (1, .int (nI i1)), (2, .int (nI (432 * i1)))]) hx hb dX5_keep_107 hl (k := 3) rfl (nI_1 k) (by decide) rfl (fun ls hl => ?_)
            refine lv_goto (tgt := 51) hx hb dX5_keep_110 (by decide) ?_
            exact ih51 (k + 1) (upd (upd (upd ff ((432 * i1) + k) ((u.2 1) k)) (((432 * i1) + 24) + k) ((u.2 2) k)) (((432 * i1) + 48) + k) ((u.2 3) k)) (by first | assumption | omega) (imgF_a hf (by omega) (by omega)) (by omega) _ _ ls hP hD hS (lv_sub hl [1, 2, 3, 0] rfl)
      exact LP51 (sg.1 0 - 0 + 1) 0 ((oA (oA u 35 (upd (u.2 35) i1 (nI (sg.1 0)))) 36 (upd ((oA u 35 (upd (u.2 35) i1 (nI (sg.1 0)))).2 36) i1 (nI (sg.1 4)))).2 37) (by first | assumption | omega) (imgF_0 _ _ _ _ _ _ _ _) (Nat.lt_succ_self _) _ _ ls hP hD hS (lv_sub hl [2, 3, 1, 0] rfl)
    · skip
      refine lv_ldc (v := (-1000000003 : Int32)) hx hb hown (hts (.constant RX5 225 (-1000000003)) (List.mem_of_getElem? (i := 3) rfl)) dX5_keep_20 ?_
      exact W.iret (v := (-1000000003 : Int32)) hx hb hr (fun t ht hW => ⟨⟨(-1000000003 : Int32), (u, lt, sj), rfl, ⟨by rw [keeF, if_neg (show ¬ ¬ inR (nI i1) 2 = true from not_not_intro (inR_t (by omega) (by omega))), if_pos (fun q9 => c17 (h8e.trans (by rw [q9]; rfl)))]; exact hRM, by rw [keeA, if_neg (show ¬ ¬ inR (nI i1) 2 = true from not_not_intro (inR_t (by omega) (by omega))), if_pos (fun q9 => c17 (h8e.trans (by rw [q9]; rfl)))]⟩, show PP G (mw G h u lt sj) t.heap by rw [ht]; exact hP⟩, hS.F ht⟩) hS.2.2 dX5_keep_22
  · skip
    refine lv_if_ne (tgt := 13) hx hb dX5_keep_7 (by decide) (fun c9 => absurd (by decide) c9) (fun _ => ?_)
    refine lv_ldc (v := (-1000000001 : Int32)) hx hb hown (hts (.constant RX5 216 (-1000000001)) (List.mem_of_getElem? (i := 1) rfl)) dX5_keep_10 ?_
    exact W.iret (v := (-1000000001 : Int32)) hx hb hr (fun t ht hW => ⟨⟨(-1000000001 : Int32), (u, lt, sj), rfl, ⟨by rw [keeF, if_pos (show ¬ inR i 2 = true from rg64_n (b := 1) (by decide) (by decide) hn4)]; exact hRM, by rw [keeA, if_pos (show ¬ inR i 2 = true from rg64_n (b := 1) (by decide) (by decide) hn4)]⟩, show PP G (mw G h u lt sj) t.heap by rw [ht]; exact hP⟩, hS.F ht⟩) hS.2.2 dX5_keep_12
set_option maxHeartbeats 1000000 in
set_option maxRecDepth 100000 in
theorem mt_X5_goBackS (l : Launch) (G : gG) (h : Nat → Nat) (sz : Nat) (u : oS) (lt : Int64) (sj : Nat → Int64) (sg : pS) (zz : Nat → Nat → Int64) (i : Int32) (nh : Nat) (hI : MIx u (sg.1 0) (sg.1 4) (sg.1 10) nh) (hIS : IS sg) (hRM : RepM u sj sg zz) : Met l yX5_goBack wsX5_goBack ({ frames := 1, cells := 0, slots := 0, locals := 25 }) (preW G (mw G h u lt sj) sz [.ref (h 0), .int i]) (va_Qi (fun (r : Int32) (v : oS × Int64 × (Nat → Int64)) => RepM v.1 v.2.2 (bacF sg i) (zz) ∧ r = bacA sg i) (fun v t => PP G (mw G h v.1 v.2.1 v.2.2) t.heap) (va_A (mw G h u lt sj) sz)) 0 0 (va_A (mw G h u lt sj) sz) := by
  refine Met.ofW (cc := cX5_goBack) (maxL := 4) (ret := (some .int)) (by decide) rfl ?_
  intro p e s m args below meth c s₁ B hml hv
  obtain ⟨ha, hsz, hP, hK, hN, hD0⟩ := hv
  subst ha
  have hx := B.exec
  have hb := B.bytes
  have hr := B.returns
  have hts := atoms_spec (ws := wsX5_goBack) B.pre
  have hown : s.vm.findClass RX5 = some m.cls := findClass_of_methodNamed B.named
  have hlocks := B.notSynchronized
  subst hsz
  have hD := hD0.self (sz := s.heap.size)
  generalize hAe : va_A (mw G h u lt sj) s.heap.size = A at hD ⊢
  have hA : ∀ q : Nat, s.heap.size ≤ q → A q := fun q h => by rw [← hAe]; exact Or.inr h
  clear hAe hD0
  have hS : va_S A s.heap s.heap [] := va_S.rf
  have hiX5 : ∀ w ∈ wsX50, w ∈ wsX5_goBack := fun w h9 => List.mem_cons_of_mem _ (List.mem_append_right _ (h9))
  have k82 := hts (.fieldLink RX5 82 "WovenHistoryModel" "keptVersions" "[I") (List.mem_of_getElem? (i := 2) rfl)
  have k91 := hts (.fieldLink RX5 91 "WovenHistoryModel" "versions" "I") (List.mem_of_getElem? (i := 4) rfl)
  have k85 := hts (.fieldLink RX5 85 "WovenHistoryModel" "keptLines" "[I") (List.mem_of_getElem? (i := 5) rfl)
  have k175 := hts (.fieldLink RX5 175 "WovenHistoryModel" "lines" "I") (List.mem_of_getElem? (i := 6) rfl)
  have k178 := hts (.fieldLink RX5 178 "WovenHistoryModel" "isOpen" "Z") (List.mem_of_getElem? (i := 7) rfl)
  have k7 := hts (.fieldLink RX5 7 "WovenHistoryModel" "parent" "[I") (List.mem_of_getElem? (i := 8) rfl)
  have k88 := hts (.fieldLink RX5 88 "WovenHistoryModel" "images" "[I") (List.mem_of_getElem? (i := 9) rfl)
  have k13 := hts (.fieldLink RX5 13 "WovenHistoryModel" "includes" "[I") (List.mem_of_getElem? (i := 10) rfl)
  have k16 := hts (.fieldLink RX5 16 "WovenHistoryModel" "excludes" "[I") (List.mem_of_getElem? (i := 11) rfl)
  have k19 := hts (.fieldLink RX5 19 "WovenHistoryModel" "letter" "[I") (List.mem_of_getElem? (i := 12) rfl)
  have k22 := hts (.fieldLink RX5 22 "WovenHistoryModel" "brought" "[I") (List.mem_of_getElem? (i := 13) rfl)
  have k25 := hts (.fieldLink RX5 25 "WovenHistoryModel" "took" "[I") (List.mem_of_getElem? (i := 14) rfl)
  have hl := lv_entry ([.ref (h 0), .int i]) (n := 4) (Nat.le_of_ble_eq_true rfl)
  rw [lg_entry_eq]
  generalize (lg_sl ([.ref (h 0), .int i]) ++ List.replicate (4 - (lg_sl ([.ref (h 0), .int i])).length) Slot.unset).toArray = ls at hl ⊢
  have hl : lv_has ls 4 [(0, .ref (h 0)), (1, .int i)] := hl
  have hC := hRM.1
  have hic := hIS.ic
  have hle8 := hIS.2.2.1
  have h8e := hRM.2.1
  have hI0 := hI
  obtain ⟨hnv, hnl, hnt, hnh, hnv24, hnl120, hnt240, hnh120, hop, hopn, hparV, hsz4, himg⟩ := hI
  refine lv_iload_n hx hb dX5_goBack_0 rfl (lv_at hl 1 rfl) ?_
  refine lv_i2l (v := i.toInt64) hx hb dX5_goBack_1 rfl ?_
  refine lv_lconst (v := 0) hx hb dX5_goBack_2 (by decide) ?_
  refine lv_lconst (v := 1) hx hb dX5_goBack_3 (by decide) ?_
  refine cSi (As := [.long i.toInt64, .long 0, .long 1]) (rest := []) ⟨hx, hb, hml, hown, hts⟩ (mt_X5_in l i.toInt64 0 1) (va_cwS 3 hts gX5_goBack_X5_in rfl rfl rfl hd_X5_in ⟨Nat.le_of_ble_eq_true rfl, Nat.le_of_ble_eq_true rfl⟩) rfl hl.1 rfl (Nat.le_of_ble_eq_true rfl) ⟨Nat.zero_le _, Nat.zero_le _⟩ dX5_goBack_4 (fun r4 hw4 => ?_)
  rcases hw4 with ⟨rfl, ha4, hb4⟩ | ⟨rfl, hn4⟩
  · skip
    obtain ⟨i1, hi0, hi1, rfl⟩ := rng_y (a := 0) (b := 1) (by decide) (by decide) (by omega) ha4 hb4
    refine lv_if_ne (tgt := 13) hx hb dX5_goBack_7 (by decide) (fun _ => ?_) (fun c9 => absurd c9 (by decide))
    refine lv_aload_n hx hb dX5_goBack_13 rfl (lv_at hl 0 rfl) ?_
    refine va_get (D := gD G) (ci := 5) (v := .ref (h 35)) (C := RX5) (T := TX5) (N := 38) hx hb hts hiX5 hown hK hP 0 rfl rfl 35 (by decide) k82 (fun _ h9 => h9) rfl dX5_goBack_14 ?_
    refine lv_iload_n hx hb dX5_goBack_17 rfl (lv_at hl 1 rfl) ?_
    refine ialdN (f := u.2 35) (n := 2) (k := i1) hx hb hK hP 23 rfl rfl (by omega) dX5_goBack_18 ?_
    refine lv_if_ge (tgt := 25) hx hb dX5_goBack_19 (by decide) (fun c19 => ?_) (fun c19 => ?_)
    · skip
      obtain ⟨n1, q1, hn1, hq1, e35, e36, hpo⟩ := (himg i1 (by omega)).resolve_left (fun e => absurd c19 (by rw [e]; decide))
      refine lv_sipush (v := nI 432) hx hb dX5_goBack_25 (by decide) ?_
      refine lv_iload_n hx hb dX5_goBack_28 rfl (lv_at hl 1 rfl) ?_
      refine lv_imul hx hb dX5_goBack_29 ?_
      refine topE (y := nI (432 * i1)) (pk_mul 432 i1) ?_
      refine lv_istore_n (lv' := [(2, .int (nI (432 * i1))), (0, .ref (h 0)), (1, .int (nI i1))]) hx hb dX5_goBack_30 rfl hl (by decide) rfl (fun ls hl => ?_)
      refine lv_aload_n hx hb dX5_goBack_31 rfl (lv_at hl 1 rfl) ?_
      refine lv_aload_n hx hb dX5_goBack_32 rfl (lv_at hl 1 rfl) ?_
      refine va_get (D := gD G) (ci := 5) (v := .ref (h 35)) (C := RX5) (T := TX5) (N := 38) hx hb hts hiX5 hown hK hP 0 rfl rfl 35 (by decide) k82 (fun _ h9 => h9) rfl dX5_goBack_33 ?_
      refine lv_iload_n hx hb dX5_goBack_36 rfl (lv_at hl 2 rfl) ?_
      refine ialdN (f := u.2 35) (n := 2) (k := i1) hx hb hK hP 23 rfl rfl (by omega) dX5_goBack_37 ?_
      refine topE e35 ?_
      refine va_put (D := gD G) (ci := 5) (v := .int (nI n1)) (ty := .int) (C := RX5) (T := TX5) (N := 38) hx hb hts hiX5 tyX5 tyX5_ok nmX5 hown hK hP hD hS 0 rfl rfl 0 (by decide) k91 (fun _ h9 => h9) rfl (tyX5_ok 0 (by decide)) (rfl) (rfl) (Nat.le_of_ble_eq_true rfl) dX5_goBack_38 (fun H locs hP hD hS => ?_)
      have hP : PP G (mw G h (oI u 0 (nI n1)) lt sj) H := hP
      have hD : va_D A (mw G h (oI u 0 (nI n1)) lt sj) := hD
      refine lv_aload_n hx hb dX5_goBack_41 rfl (lv_at hl 1 rfl) ?_
      refine lv_aload_n hx hb dX5_goBack_42 rfl (lv_at hl 1 rfl) ?_
      refine va_get (D := gD G) (ci := 5) (v := .ref (h 36)) (C := RX5) (T := TX5) (N := 38) hx hb hts hiX5 hown hK hP 0 rfl rfl 36 (by decide) k85 (fun _ h9 => h9) rfl dX5_goBack_43 ?_
      refine lv_iload_n hx hb dX5_goBack_46 rfl (lv_at hl 2 rfl) ?_
      refine ialdN (f := (oI u 0 (nI n1)).2 36) (n := 2) (k := i1) hx hb hK hP 24 rfl rfl (by omega) dX5_goBack_47 ?_
      refine topE e36 ?_
      refine va_put (D := gD G) (ci := 5) (v := .int (nI q1)) (ty := .int) (C := RX5) (T := TX5) (N := 38) hx hb hts hiX5 tyX5 tyX5_ok nmX5 hown hK hP hD hS 0 rfl rfl 4 (by decide) k175 (fun _ h9 => h9) rfl (tyX5_ok 4 (by decide)) (rfl) (rfl) (Nat.le_of_ble_eq_true rfl) dX5_goBack_48 (fun H locs hP hD hS => ?_)
      have hP : PP G (mw G h (oI (oI u 0 (nI n1)) 4 (nI q1)) lt sj) H := hP
      have hD : va_D A (mw G h (oI (oI u 0 (nI n1)) 4 (nI q1)) lt sj) := hD
      refine lv_aload_n hx hb dX5_goBack_51 rfl (lv_at hl 1 rfl) ?_
      refine lv_iconst (v := nI 0) hx hb dX5_goBack_52 (by decide) ?_
      refine va_put (D := gD G) (ci := 5) (v := .int (nI 0)) (ty := .boolean) (C := RX5) (T := TX5) (N := 38) hx hb hts hiX5 tyX5 tyX5_ok nmX5 hown hK hP hD hS 0 rfl rfl 8 (by decide) k178 (fun _ h9 => h9) rfl (tyX5_ok 8 (by decide)) (rfl) (rfl) (Nat.le_of_ble_eq_true rfl) dX5_goBack_53 (fun H locs hP hD hS => ?_)
      have hP : PP G (mw G h (oI (oI (oI u 0 (nI n1)) 4 (nI q1)) 8 (nI 0)) lt sj) H := hP
      have hD : va_D A (mw G h (oI (oI (oI u 0 (nI n1)) 4 (nI q1)) 8 (nI 0)) lt sj) := hD
      refine lv_iconst (v := nI 0) hx hb dX5_goBack_56 (by decide) ?_
      refine lv_istore_n (lv' := [(3, .int (nI 0)), (2, .int (nI (432 * i1))), (0, .ref (h 0)), (1, .int (nI i1))]) hx hb dX5_goBack_57 rfl hl (by decide) rfl (fun ls hl => ?_)
      have LP58 : ∀ (n58m : Nat), ∀ (k : Nat) (f1 : Nat → Int32) (f2 : Nat → Int32) (f3 : Nat → Int32) (hk : k ≤ n1) (hg1 : ∀ j, j < k → f1 j = u.2 37 (432 * i1 + j)) (hg2 : ∀ j, j < k → f2 j = u.2 37 (432 * i1 + 24 + j)) (hg3 : ∀ j, j < k → f3 j = u.2 37 (432 * i1 + 48 + j)), (n1 - k < n58m) → ∀ (H : Heap) (locs : List Loc) (ls : Array Slot), PP G (mw G h (oA (oA (oA (oI (oI (oI u 0 (nI n1)) 4 (nI q1)) 8 (nI 0)) 1 f1) 2 f2) 3 f3) lt sj) H → va_D A (mw G h (oA (oA (oA (oI (oI (oI u 0 (nI n1)) 4 (nI q1)) 8 (nI 0)) 1 f1) 2 f2) 3 f3) lt sj) → va_S A s.heap H locs → lv_has ls 4 [(0, .ref (h 0)), (1, .int (nI i1)), (2, .int (nI (432 * i1))), (3, .int (nI k))] → W p l e (headSpec wsX5_goBack ({ frames := 1, cells := 0, slots := 0, locals := 25 })).room s m ([.ref (h 0), .int (nI i1)] : List Value).toArray below meth c H locs 0 0 (MQ below (va_Qi (fun (r : Int32) (v : oS × Int64 × (Nat → Int64)) => RepM v.1 v.2.2 (bacF sg (nI i1)) (zz) ∧ r = bacA sg (nI i1)) (fun v t => PP G (mw G h v.1 v.2.1 v.2.2) t.heap) A) ([.ref (h 0), .int (nI i1)] : List Value).toArray s 0 0 A) (F0 m 58 ls []) := by
        intro n58m
        induction n58m with
        | zero => intro k f1 f2 f3 hk hg1 hg2 hg3 hmu H locs ls hP hD hS hl; exact absurd hmu (Nat.not_lt_zero _)
        | succ n58m ih58 =>
          intro k f1 f2 f3 hk hg1 hg2 hg3 hmu H locs ls hP hD hS hl
          refine lv_iload_n hx hb dX5_goBack_58 rfl (lv_at hl 3 rfl) ?_
          refine lv_aload_n hx hb dX5_goBack_59 rfl (lv_at hl 0 rfl) ?_
          refine va_get (D := gD G) (ci := 5) (v := .int ((oA (oA (oA (oI (oI (oI u 0 (nI n1)) 4 (nI q1)) 8 (nI 0)) 1 f1) 2 f2) 3 f3).1 0)) (C := RX5) (T := TX5) (N := 38) hx hb hts hiX5 hown hK hP 0 rfl rfl 0 (by decide) k91 (fun _ h9 => h9) rfl dX5_goBack_60 ?_
          refine topE rfl ?_
          refine lv_icmp_ge (tgt := 120) hx hb dX5_goBack_63 (by decide) (fun c63 => ?_) (fun c63 => ?_)
          · skip
            have n63 : n1 ≤ k := (nI_leI (a := n1) (b := k) (by omega) (by omega)).mp c63
            refine lv_iconst (v := nI 0) hx hb dX5_goBack_120 (by decide) ?_
            refine lv_istore_n (lv' := [(3, .int (nI 0)), (0, .ref (h 0)), (1, .int (nI i1)), (2, .int (nI (432 * i1)))]) hx hb dX5_goBack_121 rfl hl (by decide) rfl (fun ls hl => ?_)
            have LP122 : ∀ (n122m : Nat), ∀ (k : Nat) (f5 : Nat → Int32) (f6 : Nat → Int32) (f7 : Nat → Int32) (hk : k ≤ q1) (hg1 : ∀ j, j < n1 → f1 j = u.2 37 (432 * i1 + j)) (hg2 : ∀ j, j < n1 → f2 j = u.2 37 (432 * i1 + 24 + j)) (hg3 : ∀ j, j < n1 → f3 j = u.2 37 (432 * i1 + 48 + j)) (hg5 : ∀ j, j < k → f5 j = u.2 37 (432 * i1 + 72 + j)) (hg6 : ∀ j, j < k → f6 j = u.2 37 (432 * i1 + 192 + j)) (hg7 : ∀ j, j < k → f7 j = u.2 37 (432 * i1 + 312 + j)), (q1 - k < n122m) → ∀ (H : Heap) (locs : List Loc) (ls : Array Slot), PP G (mw G h (ln3 (oA (oA (oA (oI (oI (oI u 0 (nI n1)) 4 (nI q1)) 8 (nI 0)) 1 f1) 2 f2) 3 f3) f5 f6 f7) lt sj) H → va_D A (mw G h (ln3 (oA (oA (oA (oI (oI (oI u 0 (nI n1)) 4 (nI q1)) 8 (nI 0)) 1 f1) 2 f2) 3 f3) f5 f6 f7) lt sj) → va_S A s.heap H locs → lv_has ls 4 [(0, .ref (h 0)), (1, .int (nI i1)), (2, .int (nI (432 * i1))), (3, .int (nI k))] → W p l e (headSpec wsX5_goBack ({ frames := 1, cells := 0, slots := 0, locals := 25 })).room s m ([.ref (h 0), .int (nI i1)] : List Value).toArray below meth c H locs 0 0 (MQ below (va_Qi (fun (r : Int32) (v : oS × Int64 × (Nat → Int64)) => RepM v.1 v.2.2 (bacF sg (nI i1)) (zz) ∧ r = bacA sg (nI i1)) (fun v t => PP G (mw G h v.1 v.2.1 v.2.2) t.heap) A) ([.ref (h 0), .int (nI i1)] : List Value).toArray s 0 0 A) (F0 m 122 ls []) := by
              intro n122m
              induction n122m with
              | zero => intro k f5 f6 f7 hk hg1 hg2 hg3 hg5 hg6 hg7 hmu H locs ls hP hD hS hl; exact absurd hmu (Nat.not_lt_zero _)
              | succ n122m ih122 =>
                intro k f5 f6 f7 hk hg1 hg2 hg3 hg5 hg6 hg7 hmu H locs ls hP hD hS hl
                refine lv_iload_n hx hb dX5_goBack_122 rfl (lv_at hl 3 rfl) ?_
                refine lv_aload_n hx hb dX5_goBack_123 rfl (lv_at hl 0 rfl) ?_
                refine va_get (D := gD G) (ci := 5) (v := .int ((ln3 (oA (oA (oA (oI (oI (oI u 0 (nI n1)) 4 (nI q1)) 8 (nI 0)) 1 f1) 2 f2) 3 f3) f5 f6 f7).1 4)) (C := RX5) (T := TX5) (N := 38) hx hb hts hiX5 hown hK hP 0 rfl rfl 4 (by decide) k175 (fun _ h9 => h9) rfl dX5_goBack_124 ?_
                refine topE rfl ?_
                refine lv_icmp_ge (tgt := 189) hx hb dX5_goBack_127 (by decide) (fun c127 => ?_) (fun c127 => ?_)
                · skip
                  have n127 : q1 ≤ k := (nI_leI (a := q1) (b := k) (by omega) (by omega)).mp c127
                  have hk1 : k = q1 := by omega
                  obtain ⟨hRB, hB0, hB1⟩ := RepM_bac hRM hIS (show i1 < 2 by omega) e35 hn1 e36 hq1 hg1 hg2 hg3 (fun j h9 => hg5 j (by omega)) (fun j h9 => hg6 j (by omega)) (fun j h9 => hg7 j (by omega))
                  have hne : ¬ sg.1 (40 + i1) = 0 := by omega
                  refine lv_aload_n hx hb dX5_goBack_189 rfl (lv_at hl 0 rfl) ?_
                  refine va_get (D := gD G) (ci := 5) (v := .int ((ln3 (oA (oA (oA (oI (oI (oI u 0 (nI n1)) 4 (nI q1)) 8 (nI 0)) 1 f1) 2 f2) 3 f3) f5 f6 f7).1 0)) (C := RX5) (T := TX5) (N := 38) hx hb hts hiX5 hown hK hP 0 rfl rfl 0 (by decide) k91 (fun _ h9 => h9) rfl dX5_goBack_190 ?_
                  refine topE rfl ?_
                  exact W.iret (v := nI n1) hx hb hr (fun t ht hW => ⟨⟨nI n1, (ln3 (oA (oA (oA (oI (oI (oI u 0 (nI n1)) 4 (nI q1)) 8 (nI 0)) 1 f1) 2 f2) 3 f3) f5 f6 f7, lt, sj), rfl, ⟨by rw [bacF, if_neg (show ¬ ¬ inR (nI i1) 2 = true from not_not_intro (inR_t (by omega) (by omega))), vN_n (j := i1) (by omega), if_neg hne]; exact hRB, by rw [bacA, if_neg (show ¬ ¬ inR (nI i1) 2 = true from not_not_intro (inR_t (by omega) (by omega))), vN_n (j := i1) (by omega), if_neg hne]; exact congrArg nI hB1⟩, show PP G (mw G h (ln3 (oA (oA (oA (oI (oI (oI u 0 (nI n1)) 4 (nI q1)) 8 (nI 0)) 1 f1) 2 f2) 3 f3) f5 f6 f7) lt sj) t.heap by rw [ht]; exact hP⟩, hS.F ht⟩) hS.2.2 dX5_goBack_193
                · skip
                  have n127 : ¬ (q1 ≤ k) := fun q9 => c127 ((nI_leI (a := q1) (b := k) (by omega) (by omega)).mpr q9)
                  refine lv_aload_n hx hb dX5_goBack_130 rfl (lv_at hl 0 rfl) ?_
                  refine va_get (D := gD G) (ci := 5) (v := .ref (h 5)) (C := RX5) (T := TX5) (N := 38) hx hb hts hiX5 hown hK hP 0 rfl rfl 5 (by decide) k19 (fun _ h9 => h9) rfl dX5_goBack_131 ?_
                  refine lv_iload_n hx hb dX5_goBack_134 rfl (lv_at hl 3 rfl) ?_
                  refine lv_aload_n hx hb dX5_goBack_135 rfl (lv_at hl 0 rfl) ?_
                  refine va_get (D := gD G) (ci := 5) (v := .ref (h 37)) (C := RX5) (T := TX5) (N := 38) hx hb hts hiX5 hown hK hP 0 rfl rfl 37 (by decide) k88 (fun _ h9 => h9) rfl dX5_goBack_136 ?_
                  refine lv_iload_n hx hb dX5_goBack_139 rfl (lv_at hl 2 rfl) ?_
                  refine lv_bipush (v := nI 72) hx hb dX5_goBack_140 (by decide) ?_
                  refine lv_iadd hx hb dX5_goBack_142 ?_
                  refine topE (y := nI ((432 * i1) + 72)) (nI_add (432 * i1) 72) ?_
                  refine lv_iload_n hx hb dX5_goBack_143 rfl (lv_at hl 3 rfl) ?_
                  refine lv_iadd hx hb dX5_goBack_144 ?_
                  refine topE (y := nI (((432 * i1) + 72) + k)) (nI_add ((432 * i1) + 72) k) ?_
                  refine ialdN (f := u.2 37) (n := 864) (k := ((432 * i1) + 72) + k) hx hb hK hP 25 rfl rfl (by omega) dX5_goBack_145 ?_
                  refine iastN (f := f5) (n := 120) (k := k) hx hb hK hP hD hS 4 rfl rfl (by omega) dX5_goBack_146 (fun H locs hP hD hS => ?_)
                  have hP : PP G (mw G h (oA (ln3 (oA (oA (oA (oI (oI (oI u 0 (nI n1)) 4 (nI q1)) 8 (nI 0)) 1 f1) 2 f2) 3 f3) f5 f6 f7) 5 (upd f5 k ((u.2 37) (((432 * i1) + 72) + k)))) lt sj) H := hP
                  have hD : va_D A (mw G h (oA (ln3 (oA (oA (oA (oI (oI (oI u 0 (nI n1)) 4 (nI q1)) 8 (nI 0)) 1 f1) 2 f2) 3 f3) f5 f6 f7) 5 (upd f5 k ((u.2 37) (((432 * i1) + 72) + k)))) lt sj) := hD
                  refine lv_aload_n hx hb dX5_goBack_147 rfl (lv_at hl 0 rfl) ?_
                  refine va_get (D := gD G) (ci := 5) (v := .ref (h 6)) (C := RX5) (T := TX5) (N := 38) hx hb hts hiX5 hown hK hP 0 rfl rfl 6 (by decide) k22 (fun _ h9 => h9) rfl dX5_goBack_148 ?_
                  refine lv_iload_n hx hb dX5_goBack_151 rfl (lv_at hl 3 rfl) ?_
                  refine lv_aload_n hx hb dX5_goBack_152 rfl (lv_at hl 0 rfl) ?_
                  refine va_get (D := gD G) (ci := 5) (v := .ref (h 37)) (C := RX5) (T := TX5) (N := 38) hx hb hts hiX5 hown hK hP 0 rfl rfl 37 (by decide) k88 (fun _ h9 => h9) rfl dX5_goBack_153 ?_
                  refine lv_iload_n hx hb dX5_goBack_156 rfl (lv_at hl 2 rfl) ?_
                  refine lv_sipush (v := nI 192) hx hb dX5_goBack_157 (by decide) ?_
                  refine lv_iadd hx hb dX5_goBack_160 ?_
                  refine topE (y := nI ((432 * i1) + 192)) (nI_add (432 * i1) 192) ?_
                  refine lv_iload_n hx hb dX5_goBack_161 rfl (lv_at hl 3 rfl) ?_
                  refine lv_iadd hx hb dX5_goBack_162 ?_
                  refine topE (y := nI (((432 * i1) + 192) + k)) (nI_add ((432 * i1) + 192) k) ?_
                  refine ialdN (f := u.2 37) (n := 864) (k := ((432 * i1) + 192) + k) hx hb hK hP 25 rfl rfl (by omega) dX5_goBack_163 ?_
                  refine iastN (f := f6) (n := 120) (k := k) hx hb hK hP hD hS 5 rfl rfl (by omega) dX5_goBack_164 (fun H locs hP hD hS => ?_)
                  have hP : PP G (mw G h (oA (oA (ln3 (oA (oA (oA (oI (oI (oI u 0 (nI n1)) 4 (nI q1)) 8 (nI 0)) 1 f1) 2 f2) 3 f3) f5 f6 f7) 5 (upd f5 k ((u.2 37) (((432 * i1) + 72) + k)))) 6 (upd f6 k ((u.2 37) (((432 * i1) + 192) + k)))) lt sj) H := hP
                  have hD : va_D A (mw G h (oA (oA (ln3 (oA (oA (oA (oI (oI (oI u 0 (nI n1)) 4 (nI q1)) 8 (nI 0)) 1 f1) 2 f2) 3 f3) f5 f6 f7) 5 (upd f5 k ((u.2 37) (((432 * i1) + 72) + k)))) 6 (upd f6 k ((u.2 37) (((432 * i1) + 192) + k)))) lt sj) := hD
                  refine lv_aload_n hx hb dX5_goBack_165 rfl (lv_at hl 0 rfl) ?_
                  refine va_get (D := gD G) (ci := 5) (v := .ref (h 7)) (C := RX5) (T := TX5) (N := 38) hx hb hts hiX5 hown hK hP 0 rfl rfl 7 (by decide) k25 (fun _ h9 => h9) rfl dX5_goBack_166 ?_
                  refine lv_iload_n hx hb dX5_goBack_169 rfl (lv_at hl 3 rfl) ?_
                  refine lv_aload_n hx hb dX5_goBack_170 rfl (lv_at hl 0 rfl) ?_
                  refine va_get (D := gD G) (ci := 5) (v := .ref (h 37)) (C := RX5) (T := TX5) (N := 38) hx hb hts hiX5 hown hK hP 0 rfl rfl 37 (by decide) k88 (fun _ h9 => h9) rfl dX5_goBack_171 ?_
                  refine lv_iload_n hx hb dX5_goBack_174 rfl (lv_at hl 2 rfl) ?_
                  refine lv_sipush (v := nI 312) hx hb dX5_goBack_175 (by decide) ?_
                  refine lv_iadd hx hb dX5_goBack_178 ?_
                  refine topE (y := nI ((432 * i1) + 312)) (nI_add (432 * i1) 312) ?_
                  refine lv_iload_n hx hb dX5_goBack_179 rfl (lv_at hl 3 rfl) ?_
                  refine lv_iadd hx hb dX5_goBack_180 ?_
                  refine topE (y := nI (((432 * i1) + 312) + k)) (nI_add ((432 * i1) + 312) k) ?_
                  refine ialdN (f := u.2 37) (n := 864) (k := ((432 * i1) + 312) + k) hx hb hK hP 25 rfl rfl (by omega) dX5_goBack_181 ?_
                  refine iastN (f := f7) (n := 120) (k := k) hx hb hK hP hD hS 6 rfl rfl (by omega) dX5_goBack_182 (fun H locs hP hD hS => ?_)
                  have hP : PP G (mw G h (oA (oA (oA (ln3 (oA (oA (oA (oI (oI (oI u 0 (nI n1)) 4 (nI q1)) 8 (nI 0)) 1 f1) 2 f2) 3 f3) f5 f6 f7) 5 (upd f5 k ((u.2 37) (((432 * i1) + 72) + k)))) 6 (upd f6 k ((u.2 37) (((432 * i1) + 192) + k)))) 7 (upd f7 k ((u.2 37) (((432 * i1) + 312) + k)))) lt sj) H := hP
                  have hD : va_D A (mw G h (oA (oA (oA (ln3 (oA (oA (oA (oI (oI (oI u 0 (nI n1)) 4 (nI q1)) 8 (nI 0)) 1 f1) 2 f2) 3 f3) f5 f6 f7) 5 (upd f5 k ((u.2 37) (((432 * i1) + 72) + k)))) 6 (upd f6 k ((u.2 37) (((432 * i1) + 192) + k)))) 7 (upd f7 k ((u.2 37) (((432 * i1) + 312) + k)))) lt sj) := hD
                  refine lv_iinc (v := nI (k + 1)) (lv' := [(3, .int (nI (k + 1))), (0, .ref (h 0)), (1, .int (nI i1)), (2, .int (nI (432 * i1)))]) hx hb dX5_goBack_183 hl (k := 3) rfl (nI_1 k) (by decide) rfl (fun ls hl => ?_)
                  refine lv_goto (tgt := 122) hx hb dX5_goBack_186 (by decide) ?_
                  exact ih122 (k + 1) (upd f5 k ((u.2 37) (((432 * i1) + 72) + k))) (upd f6 k ((u.2 37) (((432 * i1) + 192) + k))) (upd f7 k ((u.2 37) (((432 * i1) + 312) + k))) (by first | assumption | omega) (hg1) (hg2) (hg3) (cpA (g := fun j => u.2 37 (432 * i1 + 72 + j)) hg5 rfl) (cpA (g := fun j => u.2 37 (432 * i1 + 192 + j)) hg6 rfl) (cpA (g := fun j => u.2 37 (432 * i1 + 312 + j)) hg7 rfl) (by omega) _ _ ls hP hD hS (lv_sub hl [1, 2, 3, 0] rfl)
            exact LP122 (q1 - 0 + 1) 0 (u.2 5) (u.2 6) (u.2 7) (by first | assumption | omega) ((fun j h9 => hg1 j (by omega))) ((fun j h9 => hg2 j (by omega))) ((fun j h9 => hg3 j (by omega))) (fun j h9 => absurd h9 (Nat.not_lt_zero j)) (fun j h9 => absurd h9 (Nat.not_lt_zero j)) (fun j h9 => absurd h9 (Nat.not_lt_zero j)) (Nat.lt_succ_self _) _ _ ls hP hD hS (lv_sub hl [1, 2, 3, 0] rfl)
          · skip
            have n63 : ¬ (n1 ≤ k) := fun q9 => c63 ((nI_leI (a := n1) (b := k) (by omega) (by omega)).mpr q9)
            refine lv_aload_n hx hb dX5_goBack_66 rfl (lv_at hl 0 rfl) ?_
            refine va_get (D := gD G) (ci := 5) (v := .ref (h 1)) (C := RX5) (T := TX5) (N := 38) hx hb hts hiX5 hown hK hP 0 rfl rfl 1 (by decide) k7 (fun _ h9 => h9) rfl dX5_goBack_67 ?_
            refine lv_iload_n hx hb dX5_goBack_70 rfl (lv_at hl 3 rfl) ?_
            refine lv_aload_n hx hb dX5_goBack_71 rfl (lv_at hl 0 rfl) ?_
            refine va_get (D := gD G) (ci := 5) (v := .ref (h 37)) (C := RX5) (T := TX5) (N := 38) hx hb hts hiX5 hown hK hP 0 rfl rfl 37 (by decide) k88 (fun _ h9 => h9) rfl dX5_goBack_72 ?_
            refine lv_iload_n hx hb dX5_goBack_75 rfl (lv_at hl 2 rfl) ?_
            refine lv_iload_n hx hb dX5_goBack_76 rfl (lv_at hl 3 rfl) ?_
            refine lv_iadd hx hb dX5_goBack_77 ?_
            refine topE (y := nI ((432 * i1) + k)) (nI_add (432 * i1) k) ?_
            refine ialdN (f := u.2 37) (n := 864) (k := (432 * i1) + k) hx hb hK hP 25 rfl rfl (by omega) dX5_goBack_78 ?_
            refine iastN (f := f1) (n := 25) (k := k) hx hb hK hP hD hS 1 rfl rfl (by omega) dX5_goBack_79 (fun H locs hP hD hS => ?_)
            have hP : PP G (mw G h (oA (oA (oA (oA (oI (oI (oI u 0 (nI n1)) 4 (nI q1)) 8 (nI 0)) 1 f1) 2 f2) 3 f3) 1 (upd f1 k ((u.2 37) ((432 * i1) + k)))) lt sj) H := hP
            have hD : va_D A (mw G h (oA (oA (oA (oA (oI (oI (oI u 0 (nI n1)) 4 (nI q1)) 8 (nI 0)) 1 f1) 2 f2) 3 f3) 1 (upd f1 k ((u.2 37) ((432 * i1) + k)))) lt sj) := hD
            refine lv_aload_n hx hb dX5_goBack_80 rfl (lv_at hl 0 rfl) ?_
            refine va_get (D := gD G) (ci := 5) (v := .ref (h 2)) (C := RX5) (T := TX5) (N := 38) hx hb hts hiX5 hown hK hP 0 rfl rfl 2 (by decide) k13 (fun _ h9 => h9) rfl dX5_goBack_81 ?_
            refine lv_iload_n hx hb dX5_goBack_84 rfl (lv_at hl 3 rfl) ?_
            refine lv_aload_n hx hb dX5_goBack_85 rfl (lv_at hl 0 rfl) ?_
            refine va_get (D := gD G) (ci := 5) (v := .ref (h 37)) (C := RX5) (T := TX5) (N := 38) hx hb hts hiX5 hown hK hP 0 rfl rfl 37 (by decide) k88 (fun _ h9 => h9) rfl dX5_goBack_86 ?_
            refine lv_iload_n hx hb dX5_goBack_89 rfl (lv_at hl 2 rfl) ?_
            refine lv_bipush (v := nI 24) hx hb dX5_goBack_90 (by decide) ?_
            refine lv_iadd hx hb dX5_goBack_92 ?_
            refine topE (y := nI ((432 * i1) + 24)) (nI_add (432 * i1) 24) ?_
            refine lv_iload_n hx hb dX5_goBack_93 rfl (lv_at hl 3 rfl) ?_
            refine lv_iadd hx hb dX5_goBack_94 ?_
            refine topE (y := nI (((432 * i1) + 24) + k)) (nI_add ((432 * i1) + 24) k) ?_
            refine ialdN (f := u.2 37) (n := 864) (k := ((432 * i1) + 24) + k) hx hb hK hP 25 rfl rfl (by omega) dX5_goBack_95 ?_
            refine iastN (f := f2) (n := 25) (k := k) hx hb hK hP hD hS 2 rfl rfl (by omega) dX5_goBack_96 (fun H locs hP hD hS => ?_)
            have hP : PP G (mw G h (oA (oA (oA (oA (oA (oI (oI (oI u 0 (nI n1)) 4 (nI q1)) 8 (nI 0)) 1 f1) 2 f2) 3 f3) 1 (upd f1 k ((u.2 37) ((432 * i1) + k)))) 2 (upd f2 k ((u.2 37) (((432 * i1) + 24) + k)))) lt sj) H := hP
            have hD : va_D A (mw G h (oA (oA (oA (oA (oA (oI (oI (oI u 0 (nI n1)) 4 (nI q1)) 8 (nI 0)) 1 f1) 2 f2) 3 f3) 1 (upd f1 k ((u.2 37) ((432 * i1) + k)))) 2 (upd f2 k ((u.2 37) (((432 * i1) + 24) + k)))) lt sj) := hD
            refine lv_aload_n hx hb dX5_goBack_97 rfl (lv_at hl 0 rfl) ?_
            refine va_get (D := gD G) (ci := 5) (v := .ref (h 3)) (C := RX5) (T := TX5) (N := 38) hx hb hts hiX5 hown hK hP 0 rfl rfl 3 (by decide) k16 (fun _ h9 => h9) rfl dX5_goBack_98 ?_
            refine lv_iload_n hx hb dX5_goBack_101 rfl (lv_at hl 3 rfl) ?_
            refine lv_aload_n hx hb dX5_goBack_102 rfl (lv_at hl 0 rfl) ?_
            refine va_get (D := gD G) (ci := 5) (v := .ref (h 37)) (C := RX5) (T := TX5) (N := 38) hx hb hts hiX5 hown hK hP 0 rfl rfl 37 (by decide) k88 (fun _ h9 => h9) rfl dX5_goBack_103 ?_
            refine lv_iload_n hx hb dX5_goBack_106 rfl (lv_at hl 2 rfl) ?_
            refine lv_bipush (v := nI 48) hx hb dX5_goBack_107 (by decide) ?_
            refine lv_iadd hx hb dX5_goBack_109 ?_
            refine topE (y := nI ((432 * i1) + 48)) (nI_add (432 * i1) 48) ?_
            refine lv_iload_n hx hb dX5_goBack_110 rfl (lv_at hl 3 rfl) ?_
            refine lv_iadd hx hb dX5_goBack_111 ?_
            refine topE (y := nI (((432 * i1) + 48) + k)) (nI_add ((432 * i1) + 48) k) ?_
            refine ialdN (f := u.2 37) (n := 864) (k := ((432 * i1) + 48) + k) hx hb hK hP 25 rfl rfl (by omega) dX5_goBack_112 ?_
            refine iastN (f := f3) (n := 25) (k := k) hx hb hK hP hD hS 3 rfl rfl (by omega) dX5_goBack_113 (fun H locs hP hD hS => ?_)
            have hP : PP G (mw G h (oA (oA (oA (oA (oA (oA (oI (oI (oI u 0 (nI n1)) 4 (nI q1)) 8 (nI 0)) 1 f1) 2 f2) 3 f3) 1 (upd f1 k ((u.2 37) ((432 * i1) + k)))) 2 (upd f2 k ((u.2 37) (((432 * i1) + 24) + k)))) 3 (upd f3 k ((u.2 37) (((432 * i1) + 48) + k)))) lt sj) H := hP
            have hD : va_D A (mw G h (oA (oA (oA (oA (oA (oA (oI (oI (oI u 0 (nI n1)) 4 (nI q1)) 8 (nI 0)) 1 f1) 2 f2) 3 f3) 1 (upd f1 k ((u.2 37) ((432 * i1) + k)))) 2 (upd f2 k ((u.2 37) (((432 * i1) + 24) + k)))) 3 (upd f3 k ((u.2 37) (((432 * i1) + 48) + k)))) lt sj) := hD
            refine lv_iinc (v := nI (k + 1)) (lv' := [(3, .int (nI (k + 1))), (0, .ref (h 0)), (1, .int (nI i1)), (2, .int (nI (432 * i1)))]) hx hb dX5_goBack_114 hl (k := 3) rfl (nI_1 k) (by decide) rfl (fun ls hl => ?_)
            refine lv_goto (tgt := 58) hx hb dX5_goBack_117 (by decide) ?_
            exact ih58 (k + 1) (upd f1 k ((u.2 37) ((432 * i1) + k))) (upd f2 k ((u.2 37) (((432 * i1) + 24) + k))) (upd f3 k ((u.2 37) (((432 * i1) + 48) + k))) (by first | assumption | omega) (cpA (g := fun j => u.2 37 (432 * i1 + j)) hg1 rfl) (cpA (g := fun j => u.2 37 (432 * i1 + 24 + j)) hg2 rfl) (cpA (g := fun j => u.2 37 (432 * i1 + 48 + j)) hg3 rfl) (by omega) _ _ ls hP hD hS (lv_sub hl [1, 2, 3, 0] rfl)
      exact LP58 (n1 - 0 + 1) 0 ((oI (oI (oI u 0 (nI n1)) 4 (nI q1)) 8 (nI 0)).2 1) ((oI (oI (oI u 0 (nI n1)) 4 (nI q1)) 8 (nI 0)).2 2) ((oI (oI (oI u 0 (nI n1)) 4 (nI q1)) 8 (nI 0)).2 3) (by first | assumption | omega) (fun j h9 => absurd h9 (Nat.not_lt_zero j)) (fun j h9 => absurd h9 (Nat.not_lt_zero j)) (fun j h9 => absurd h9 (Nat.not_lt_zero j)) (Nat.lt_succ_self _) _ _ ls hP hD hS (lv_sub hl [2, 3, 1, 0] rfl)
    · skip
      refine lv_ldc (v := (-1000000003 : Int32)) hx hb hown (hts (.constant RX5 225 (-1000000003)) (List.mem_of_getElem? (i := 3) rfl)) dX5_goBack_22 ?_
      exact W.iret (v := (-1000000003 : Int32)) hx hb hr (fun t ht hW => ⟨⟨(-1000000003 : Int32), (u, lt, sj), rfl, ⟨by rw [bacF, if_neg (show ¬ ¬ inR (nI i1) 2 = true from not_not_intro (inR_t (by omega) (by omega))), vN_n (j := i1) (by omega), if_pos (RepM_nob hRM hIS (show i1 < 2 by omega) (Int32.not_le.mp c19))]; exact hRM, by rw [bacA, if_neg (show ¬ ¬ inR (nI i1) 2 = true from not_not_intro (inR_t (by omega) (by omega))), vN_n (j := i1) (by omega), if_pos (RepM_nob hRM hIS (show i1 < 2 by omega) (Int32.not_le.mp c19))]⟩, show PP G (mw G h u lt sj) t.heap by rw [ht]; exact hP⟩, hS.F ht⟩) hS.2.2 dX5_goBack_24
  · skip
    refine lv_if_ne (tgt := 13) hx hb dX5_goBack_7 (by decide) (fun c9 => absurd (by decide) c9) (fun _ => ?_)
    refine lv_ldc (v := (-1000000001 : Int32)) hx hb hown (hts (.constant RX5 216 (-1000000001)) (List.mem_of_getElem? (i := 1) rfl)) dX5_goBack_10 ?_
    exact W.iret (v := (-1000000001 : Int32)) hx hb hr (fun t ht hW => ⟨⟨(-1000000001 : Int32), (u, lt, sj), rfl, ⟨by rw [bacF, if_pos (show ¬ inR i 2 = true from rg64_n (b := 1) (by decide) (by decide) hn4)]; exact hRM, by rw [bacA, if_pos (show ¬ inR i 2 = true from rg64_n (b := 1) (by decide) (by decide) hn4)]⟩, show PP G (mw G h u lt sj) t.heap by rw [ht]; exact hP⟩, hS.F ht⟩) hS.2.2 dX5_goBack_12
set_option maxHeartbeats 1000000 in
set_option maxRecDepth 100000 in
theorem mt_X5_feedS (l : Launch) (G : gG) (h : Nat → Nat) (sz : Nat) (u : oS) (lt : Int64) (sj : Nat → Int64) (sg : pS) (zz : Nat → Nat → Int64) (a : Int32) (nh : Nat) (hI : MIx u (sg.1 0) (sg.1 4) (sg.1 10) nh) (hIS : IS sg) (hRM : RepM u sj sg zz) : Met l yX5_feed wsX5_feed ({ frames := 1, cells := 0, slots := 0, locals := 25 }) (preW G (mw G h u lt sj) sz [.ref (h 0), .int a]) (va_Qi (fun (r : Int32) (v : oS × Int64 × (Nat → Int64)) => RepM v.1 v.2.2 (feeF sg a) (zz) ∧ r = feeA sg a) (fun v t => PP G (mw G h v.1 v.2.1 v.2.2) t.heap) (va_A (mw G h u lt sj) sz)) 0 0 (va_A (mw G h u lt sj) sz) := by
  refine Met.ofW (cc := cX5_feed) (maxL := 2) (ret := (some .int)) (by decide) rfl ?_
  intro p e s m args below meth c s₁ B hml hv
  obtain ⟨ha, hsz, hP, hK, hN, hD0⟩ := hv
  subst ha
  have hx := B.exec
  have hb := B.bytes
  have hr := B.returns
  have hts := atoms_spec (ws := wsX5_feed) B.pre
  have hown : s.vm.findClass RX5 = some m.cls := findClass_of_methodNamed B.named
  have hlocks := B.notSynchronized
  subst hsz
  have hD := hD0.self (sz := s.heap.size)
  generalize hAe : va_A (mw G h u lt sj) s.heap.size = A at hD ⊢
  have hA : ∀ q : Nat, s.heap.size ≤ q → A q := fun q h => by rw [← hAe]; exact Or.inr h
  clear hAe hD0
  have hS : va_S A s.heap s.heap [] := va_S.rf
  have hiX5 : ∀ w ∈ wsX50, w ∈ wsX5_feed := fun w h9 => List.mem_cons_of_mem _ (List.mem_append_right _ (h9))
  have k101 := hts (.fieldLink RX5 101 "WovenHistoryModel" "texted" "I") (List.mem_of_getElem? (i := 3) rfl)
  have k28 := hts (.fieldLink RX5 28 "WovenHistoryModel" "text" "[I") (List.mem_of_getElem? (i := 5) rfl)
  have hl := lv_entry ([.ref (h 0), .int a]) (n := 2) (Nat.le_of_ble_eq_true rfl)
  rw [lg_entry_eq]
  generalize (lg_sl ([.ref (h 0), .int a]) ++ List.replicate (2 - (lg_sl ([.ref (h 0), .int a])).length) Slot.unset).toArray = ls at hl ⊢
  have hl : lv_has ls 2 [(0, .ref (h 0)), (1, .int a)] := hl
  have hC := hRM.1
  have hic := hIS.ic
  have hle8 := hIS.2.2.1
  have h8e := hRM.2.1
  have hI0 := hI
  obtain ⟨hnv, hnl, hnt, hnh, hnv24, hnl120, hnt240, hnh120, hop, hopn, hparV, hsz4, himg⟩ := hI
  refine lv_iload_n hx hb dX5_feed_0 rfl (lv_at hl 1 rfl) ?_
  refine lv_i2l (v := a.toInt64) hx hb dX5_feed_1 rfl ?_
  refine lv_lconst (v := 0) hx hb dX5_feed_2 (by decide) ?_
  refine lv_ldc2 (v := 255) hx hb hown (hts (.constantLong RX5 98 (255)) (List.mem_of_getElem? (i := 1) rfl)) dX5_feed_3 ?_
  refine cSi (As := [.long a.toInt64, .long 0, .long 255]) (rest := []) ⟨hx, hb, hml, hown, hts⟩ (mt_X5_in l a.toInt64 0 255) (va_cwS 3 hts gX5_feed_X5_in rfl rfl rfl hd_X5_in ⟨Nat.le_of_ble_eq_true rfl, Nat.le_of_ble_eq_true rfl⟩) rfl hl.1 rfl (Nat.le_of_ble_eq_true rfl) ⟨Nat.zero_le _, Nat.zero_le _⟩ dX5_feed_6 (fun r6 hw6 => ?_)
  rcases hw6 with ⟨rfl, ha6, hb6⟩ | ⟨rfl, hn6⟩
  · skip
    obtain ⟨a1, ha1, ha2, ea⟩ := rng_y (a := 0) (b := 255) (by decide) (by decide) (by omega) ha6 hb6
    refine lv_if_ne (tgt := 15) hx hb dX5_feed_9 (by decide) (fun _ => ?_) (fun c9 => absurd c9 (by decide))
    refine lv_aload_n hx hb dX5_feed_15 rfl (lv_at hl 0 rfl) ?_
    refine va_get (D := gD G) (ci := 5) (v := .int (u.1 10)) (C := RX5) (T := TX5) (N := 38) hx hb hts hiX5 hown hK hP 0 rfl rfl 10 (by decide) k101 (fun _ h9 => h9) rfl dX5_feed_16 ?_
    refine topE hnt ?_
    refine lv_sipush (v := nI 240) hx hb dX5_feed_19 (by decide) ?_
    refine lv_icmp_ne (tgt := 28) hx hb dX5_feed_22 (by decide) (fun c22 => ?_) (fun c22 => ?_)
    · skip
      have n22 : ¬ ((sg.1 10) = 240) := fun q9 => c22 ((nI_eq (a := sg.1 10) (b := 240) (by omega) (by omega)).mpr q9)
      refine lv_aload_n hx hb dX5_feed_28 rfl (lv_at hl 0 rfl) ?_
      refine va_get (D := gD G) (ci := 5) (v := .ref (h 9)) (C := RX5) (T := TX5) (N := 38) hx hb hts hiX5 hown hK hP 0 rfl rfl 9 (by decide) k28 (fun _ h9 => h9) rfl dX5_feed_29 ?_
      refine lv_aload_n hx hb dX5_feed_32 rfl (lv_at hl 0 rfl) ?_
      refine va_get (D := gD G) (ci := 5) (v := .int (u.1 10)) (C := RX5) (T := TX5) (N := 38) hx hb hts hiX5 hown hK hP 0 rfl rfl 10 (by decide) k101 (fun _ h9 => h9) rfl dX5_feed_33 ?_
      refine topE hnt ?_
      refine lv_iload_n hx hb dX5_feed_36 rfl (lv_at hl 1 rfl) ?_
      refine iastN (f := u.2 9) (n := 240) (k := sg.1 10) hx hb hK hP hD hS 7 rfl rfl (by omega) dX5_feed_37 (fun H locs hP hD hS => ?_)
      have hP : PP G (mw G h (oA u 9 (upd (u.2 9) (sg.1 10) a)) lt sj) H := hP
      have hD : va_D A (mw G h (oA u 9 (upd (u.2 9) (sg.1 10) a)) lt sj) := hD
      refine lv_aload_n hx hb dX5_feed_38 rfl (lv_at hl 0 rfl) ?_
      refine lv_dup hx hb dX5_feed_39 rfl ?_
      refine va_get (D := gD G) (ci := 5) (v := .int ((oA u 9 (upd (u.2 9) (sg.1 10) a)).1 10)) (C := RX5) (T := TX5) (N := 38) hx hb hts hiX5 hown hK hP 0 rfl rfl 10 (by decide) k101 (fun _ h9 => h9) rfl dX5_feed_40 ?_
      refine topE hnt ?_
      refine lv_iconst (v := nI 1) hx hb dX5_feed_43 (by decide) ?_
      refine lv_iadd hx hb dX5_feed_44 ?_
      refine topE (y := nI ((sg.1 10) + 1)) (nI_add (sg.1 10) 1) ?_
      refine va_put (D := gD G) (ci := 5) (v := .int (nI ((sg.1 10) + 1))) (ty := .int) (C := RX5) (T := TX5) (N := 38) hx hb hts hiX5 tyX5 tyX5_ok nmX5 hown hK hP hD hS 0 rfl rfl 10 (by decide) k101 (fun _ h9 => h9) rfl (tyX5_ok 10 (by decide)) (rfl) (rfl) (Nat.le_of_ble_eq_true rfl) dX5_feed_45 (fun H locs hP hD hS => ?_)
      have hP : PP G (mw G h (oI (oA u 9 (upd (u.2 9) (sg.1 10) a)) 10 (nI ((sg.1 10) + 1))) lt sj) H := hP
      have hD : va_D A (mw G h (oI (oA u 9 (upd (u.2 9) (sg.1 10) a)) 10 (nI ((sg.1 10) + 1))) lt sj) := hD
      refine lv_aload_n hx hb dX5_feed_48 rfl (lv_at hl 0 rfl) ?_
      refine va_get (D := gD G) (ci := 5) (v := .int (nI ((sg.1 10) + 1))) (C := RX5) (T := TX5) (N := 38) hx hb hts hiX5 hown hK hP 0 rfl rfl 10 (by decide) k101 (fun _ h9 => h9) rfl dX5_feed_49 ?_
      exact W.iret (v := nI ((sg.1 10) + 1)) hx hb hr (fun t ht hW => ⟨⟨nI ((sg.1 10) + 1), (oI (oA u 9 (upd (u.2 9) (sg.1 10) a)) 10 (nI ((sg.1 10) + 1)), lt, sj), rfl, ⟨by rw [feeF, if_neg (show ¬ ¬ inR a 256 = true from not_not_intro (by rw [ea]; exact inR_t (by omega) (by omega))), if_neg n22]; exact RepM_fee hRM, by rw [feeA, if_neg (show ¬ ¬ inR a 256 = true from not_not_intro (by rw [ea]; exact inR_t (by omega) (by omega))), if_neg n22]⟩, show PP G (mw G h (oI (oA u 9 (upd (u.2 9) (sg.1 10) a)) 10 (nI ((sg.1 10) + 1))) lt sj) t.heap by rw [ht]; exact hP⟩, hS.F ht⟩) hS.2.2 dX5_feed_52
    · skip
      have n22 : (sg.1 10) = 240 := (nI_eq (a := sg.1 10) (b := 240) (by omega) (by omega)).mp c22
      refine lv_ldc (v := (-1000000004 : Int32)) hx hb hown (hts (.constant RX5 104 (-1000000004)) (List.mem_of_getElem? (i := 4) rfl)) dX5_feed_25 ?_
      exact W.iret (v := (-1000000004 : Int32)) hx hb hr (fun t ht hW => ⟨⟨(-1000000004 : Int32), (u, lt, sj), rfl, ⟨by rw [feeF, if_neg (show ¬ ¬ inR a 256 = true from not_not_intro (by rw [ea]; exact inR_t (by omega) (by omega))), if_pos n22]; exact hRM, by rw [feeA, if_neg (show ¬ ¬ inR a 256 = true from not_not_intro (by rw [ea]; exact inR_t (by omega) (by omega))), if_pos n22]⟩, show PP G (mw G h u lt sj) t.heap by rw [ht]; exact hP⟩, hS.F ht⟩) hS.2.2 dX5_feed_27
  · skip
    refine lv_if_ne (tgt := 15) hx hb dX5_feed_9 (by decide) (fun c9 => absurd (by decide) c9) (fun _ => ?_)
    refine lv_ldc (v := (-1000000002 : Int32)) hx hb hown (hts (.constant RX5 100 (-1000000002)) (List.mem_of_getElem? (i := 2) rfl)) dX5_feed_12 ?_
    exact W.iret (v := (-1000000002 : Int32)) hx hb hr (fun t ht hW => ⟨⟨(-1000000002 : Int32), (u, lt, sj), rfl, ⟨by rw [feeF, if_pos (show ¬ inR a 256 = true from rg64_n (b := 255) (by decide) (by decide) hn6)]; exact hRM, by rw [feeA, if_pos (show ¬ inR a 256 = true from rg64_n (b := 255) (by decide) (by decide) hn6)]⟩, show PP G (mw G h u lt sj) t.heap by rw [ht]; exact hP⟩, hS.F ht⟩) hS.2.2 dX5_feed_14
set_option maxHeartbeats 1000000 in
set_option maxRecDepth 100000 in
theorem mt_X5_weaveS (l : Launch) (G : gG) (h : Nat → Nat) (sz : Nat) (u : oS) (lt : Int64) (sj : Nat → Int64) (tx : Nat → Int32) (nv nl nt nh : Nat) (hI : MIx u nv nl nt nh) (htx : u.2 9 = tx) (hlet : ∀ i, i < nt → ∃ j, j ≤ 255 ∧ tx i = nI j) : Met l yX5_weave wsX5_weave ({ frames := 6, cells := 0, slots := 0, locals := 134 }) (preW G (mw G h u lt sj) sz [.ref (h 0)]) (va_Qi (fun (r : Int32) (v : oS × Int64 × (Nat → Int64)) => (∃ res, pEv tx nt true s0 res ∧ v.1.1 10 = nI 0 ∧ MIp v.1 ∧ v.1.2 32 = u.2 32 ∧ v.1.2 33 = u.2 33 ∧ ((¬ res.1 = 0 ∧ r = (-10 : Int32) - nI res.1 ∧ v.1.1 11 = nI res.2.1 ∧ rel [10, 11, 12, 13, 14, 15, 19, 23] [16, 17, 18, 20, 21, 22, 24, 25] u v.1) ∨ (res.1 = 0 ∧ r = nI (res.2.2.1 15) ∧ v.1.1 11 = -1 ∧ WovM u v.1 res.2.2))) ∧ v.2 = (lt, sj)) (fun v t => PP G (mw G h v.1 v.2.1 v.2.2) t.heap) (va_A (mw G h u lt sj) sz)) 0 0 (va_A (mw G h u lt sj) sz) := by
  refine Met.ofW (cc := cX5_weave) (maxL := 3) (ret := (some .int)) (by decide) rfl ?_
  intro p e s m args below meth c s₁ B hml hv
  obtain ⟨ha, hsz, hP, hK, hN, hD0⟩ := hv
  subst ha
  have hx := B.exec
  have hb := B.bytes
  have hr := B.returns
  have hts := atoms_spec (ws := wsX5_weave) B.pre
  have hown : s.vm.findClass RX5 = some m.cls := findClass_of_methodNamed B.named
  have hlocks := B.notSynchronized
  subst hsz
  have hD := hD0.self (sz := s.heap.size)
  generalize hAe : va_A (mw G h u lt sj) s.heap.size = A at hD ⊢
  have hA : ∀ q : Nat, s.heap.size ≤ q → A q := fun q h => by rw [← hAe]; exact Or.inr h
  clear hAe hD0
  have hS : va_S A s.heap s.heap [] := va_S.rf
  have hiX5 : ∀ w ∈ wsX50, w ∈ wsX5_weave := fun w h9 => List.mem_cons_of_mem _ (List.mem_append_right _ (h9))
  have k31 := hts (.fieldLink RX5 31 "WovenHistoryModel" "faultPlace" "I") (List.mem_of_getElem? (i := 1) rfl)
  have k105 := hts (.fieldLink RX5 105 "WovenHistoryModel" "at0" "I") (List.mem_of_getElem? (i := 2) rfl)
  have k129 := hts (.fieldLink RX5 129 "WovenHistoryModel" "readVersions" "I") (List.mem_of_getElem? (i := 3) rfl)
  have k150 := hts (.fieldLink RX5 150 "WovenHistoryModel" "readLines" "I") (List.mem_of_getElem? (i := 4) rfl)
  have k143 := hts (.fieldLink RX5 143 "WovenHistoryModel" "deep" "I") (List.mem_of_getElem? (i := 5) rfl)
  have k101 := hts (.fieldLink RX5 101 "WovenHistoryModel" "texted" "I") (List.mem_of_getElem? (i := 6) rfl)
  have k91 := hts (.fieldLink RX5 91 "WovenHistoryModel" "versions" "I") (List.mem_of_getElem? (i := 7) rfl)
  have k35 := hts (.fieldLink RX5 35 "WovenHistoryModel" "readParent" "[I") (List.mem_of_getElem? (i := 8) rfl)
  have k7 := hts (.fieldLink RX5 7 "WovenHistoryModel" "parent" "[I") (List.mem_of_getElem? (i := 9) rfl)
  have k38 := hts (.fieldLink RX5 38 "WovenHistoryModel" "readIncludes" "[I") (List.mem_of_getElem? (i := 10) rfl)
  have k13 := hts (.fieldLink RX5 13 "WovenHistoryModel" "includes" "[I") (List.mem_of_getElem? (i := 11) rfl)
  have k41 := hts (.fieldLink RX5 41 "WovenHistoryModel" "readExcludes" "[I") (List.mem_of_getElem? (i := 12) rfl)
  have k16 := hts (.fieldLink RX5 16 "WovenHistoryModel" "excludes" "[I") (List.mem_of_getElem? (i := 13) rfl)
  have k175 := hts (.fieldLink RX5 175 "WovenHistoryModel" "lines" "I") (List.mem_of_getElem? (i := 14) rfl)
  have k44 := hts (.fieldLink RX5 44 "WovenHistoryModel" "readLetter" "[I") (List.mem_of_getElem? (i := 15) rfl)
  have k19 := hts (.fieldLink RX5 19 "WovenHistoryModel" "letter" "[I") (List.mem_of_getElem? (i := 16) rfl)
  have k47 := hts (.fieldLink RX5 47 "WovenHistoryModel" "readBrought" "[I") (List.mem_of_getElem? (i := 17) rfl)
  have k22 := hts (.fieldLink RX5 22 "WovenHistoryModel" "brought" "[I") (List.mem_of_getElem? (i := 18) rfl)
  have k50 := hts (.fieldLink RX5 50 "WovenHistoryModel" "readTook" "[I") (List.mem_of_getElem? (i := 19) rfl)
  have k25 := hts (.fieldLink RX5 25 "WovenHistoryModel" "took" "[I") (List.mem_of_getElem? (i := 20) rfl)
  have k178 := hts (.fieldLink RX5 178 "WovenHistoryModel" "isOpen" "Z") (List.mem_of_getElem? (i := 21) rfl)
  have k82 := hts (.fieldLink RX5 82 "WovenHistoryModel" "keptVersions" "[I") (List.mem_of_getElem? (i := 22) rfl)
  have hl := lv_entry ([.ref (h 0)]) (n := 3) (Nat.le_of_ble_eq_true rfl)
  rw [lg_entry_eq]
  generalize (lg_sl ([.ref (h 0)]) ++ List.replicate (3 - (lg_sl ([.ref (h 0)])).length) Slot.unset).toArray = ls at hl ⊢
  have hl : lv_has ls 3 [(0, .ref (h 0))] := hl
  have hI0 := hI
  obtain ⟨hnv, hnl, hnt, hnh, hnv24, hnl120, hnt240, hnh120, hop, hopn, hparV, hsz4, himg⟩ := hI
  refine lv_aload_n hx hb dX5_weave_0 rfl (lv_at hl 0 rfl) ?_
  refine lv_iconst (v := (-1 : Int32)) hx hb dX5_weave_1 (by decide) ?_
  refine va_put (D := gD G) (ci := 5) (v := .int (-1 : Int32)) (ty := .int) (C := RX5) (T := TX5) (N := 38) hx hb hts hiX5 tyX5 tyX5_ok nmX5 hown hK hP hD hS 0 rfl rfl 11 (by decide) k31 (fun _ h9 => h9) rfl (tyX5_ok 11 (by decide)) (rfl) (rfl) (Nat.le_of_ble_eq_true rfl) dX5_weave_2 (fun H locs hP hD hS => ?_)
  have hP : PP G (mw G h (oI u 11 (-1 : Int32)) lt sj) H := hP
  have hD : va_D A (mw G h (oI u 11 (-1 : Int32)) lt sj) := hD
  refine lv_aload_n hx hb dX5_weave_5 rfl (lv_at hl 0 rfl) ?_
  refine lv_iconst (v := nI 0) hx hb dX5_weave_6 (by decide) ?_
  refine va_put (D := gD G) (ci := 5) (v := .int (nI 0)) (ty := .int) (C := RX5) (T := TX5) (N := 38) hx hb hts hiX5 tyX5 tyX5_ok nmX5 hown hK hP hD hS 0 rfl rfl 12 (by decide) k105 (fun _ h9 => h9) rfl (tyX5_ok 12 (by decide)) (rfl) (rfl) (Nat.le_of_ble_eq_true rfl) dX5_weave_7 (fun H locs hP hD hS => ?_)
  have hP : PP G (mw G h (oI (oI u 11 (-1 : Int32)) 12 (nI 0)) lt sj) H := hP
  have hD : va_D A (mw G h (oI (oI u 11 (-1 : Int32)) 12 (nI 0)) lt sj) := hD
  refine lv_aload_n hx hb dX5_weave_10 rfl (lv_at hl 0 rfl) ?_
  refine lv_iconst (v := nI 0) hx hb dX5_weave_11 (by decide) ?_
  refine va_put (D := gD G) (ci := 5) (v := .int (nI 0)) (ty := .int) (C := RX5) (T := TX5) (N := 38) hx hb hts hiX5 tyX5 tyX5_ok nmX5 hown hK hP hD hS 0 rfl rfl 15 (by decide) k129 (fun _ h9 => h9) rfl (tyX5_ok 15 (by decide)) (rfl) (rfl) (Nat.le_of_ble_eq_true rfl) dX5_weave_12 (fun H locs hP hD hS => ?_)
  have hP : PP G (mw G h (oI (oI (oI u 11 (-1 : Int32)) 12 (nI 0)) 15 (nI 0)) lt sj) H := hP
  have hD : va_D A (mw G h (oI (oI (oI u 11 (-1 : Int32)) 12 (nI 0)) 15 (nI 0)) lt sj) := hD
  refine lv_aload_n hx hb dX5_weave_15 rfl (lv_at hl 0 rfl) ?_
  refine lv_iconst (v := nI 0) hx hb dX5_weave_16 (by decide) ?_
  refine va_put (D := gD G) (ci := 5) (v := .int (nI 0)) (ty := .int) (C := RX5) (T := TX5) (N := 38) hx hb hts hiX5 tyX5 tyX5_ok nmX5 hown hK hP hD hS 0 rfl rfl 19 (by decide) k150 (fun _ h9 => h9) rfl (tyX5_ok 19 (by decide)) (rfl) (rfl) (Nat.le_of_ble_eq_true rfl) dX5_weave_17 (fun H locs hP hD hS => ?_)
  have hP : PP G (mw G h (oI (oI (oI (oI u 11 (-1 : Int32)) 12 (nI 0)) 15 (nI 0)) 19 (nI 0)) lt sj) H := hP
  have hD : va_D A (mw G h (oI (oI (oI (oI u 11 (-1 : Int32)) 12 (nI 0)) 15 (nI 0)) 19 (nI 0)) lt sj) := hD
  refine lv_aload_n hx hb dX5_weave_20 rfl (lv_at hl 0 rfl) ?_
  refine lv_iconst (v := nI 0) hx hb dX5_weave_21 (by decide) ?_
  refine va_put (D := gD G) (ci := 5) (v := .int (nI 0)) (ty := .int) (C := RX5) (T := TX5) (N := 38) hx hb hts hiX5 tyX5 tyX5_ok nmX5 hown hK hP hD hS 0 rfl rfl 23 (by decide) k143 (fun _ h9 => h9) rfl (tyX5_ok 23 (by decide)) (rfl) (rfl) (Nat.le_of_ble_eq_true rfl) dX5_weave_22 (fun H locs hP hD hS => ?_)
  have hP : PP G (mw G h (oI (oI (oI (oI (oI u 11 (-1 : Int32)) 12 (nI 0)) 15 (nI 0)) 19 (nI 0)) 23 (nI 0)) lt sj) H := hP
  have hD : va_D A (mw G h (oI (oI (oI (oI (oI u 11 (-1 : Int32)) 12 (nI 0)) 15 (nI 0)) 19 (nI 0)) 23 (nI 0)) lt sj) := hD
  refine lv_iconst (v := nI 0) hx hb dX5_weave_25 (by decide) ?_
  refine lv_istore_n (lv' := [(1, .int (nI 0)), (0, .ref (h 0))]) hx hb dX5_weave_26 rfl hl (by decide) rfl (fun ls hl => ?_)
  refine lv_iconst (v := nI 1) hx hb dX5_weave_27 (by decide) ?_
  refine lv_istore_n (lv' := [(2, .int (nI 1)), (1, .int (nI 0)), (0, .ref (h 0))]) hx hb dX5_weave_28 rfl hl (by decide) rfl (fun ls hl => ?_)
  have LP29 : ∀ (n29m : Nat), ∀ (f : Nat) (x : Int32) (w : oS) (mm : Nat) (hWq : rdW u w) (htx_w : w.2 9 = tx) (hF : f = 0 → ∃ s1, RSm w nt s1 ∧ nt + 1 - s1.1 12 ≤ mm ∧ w.1 11 = -1 ∧ (∀ res, pEv tx nt (decide (¬ x = 0)) s1 res → pEv tx nt true s0 res)) (hG : ¬ f = 0 → ∃ p s1, pEv tx nt true s0 (f, p, s1) ∧ w.1 11 = nI p) (hf4 : f ≤ 4), (mm < n29m) → ∀ (H : Heap) (locs : List Loc) (ls : Array Slot), PP G (mw G h w lt sj) H → va_D A (mw G h w lt sj) → va_S A s.heap H locs → lv_has ls 3 [(0, .ref (h 0)), (1, .int (nI f)), (2, .int x)] → W p l e (headSpec wsX5_weave ({ frames := 6, cells := 0, slots := 0, locals := 134 })).room s m ([.ref (h 0)] : List Value).toArray below meth c H locs 0 0 (MQ below (va_Qi (fun (r : Int32) (v : oS × Int64 × (Nat → Int64)) => (∃ res, pEv tx nt true s0 res ∧ v.1.1 10 = nI 0 ∧ MIp v.1 ∧ v.1.2 32 = u.2 32 ∧ v.1.2 33 = u.2 33 ∧ ((¬ res.1 = 0 ∧ r = (-10 : Int32) - nI res.1 ∧ v.1.1 11 = nI res.2.1 ∧ rel [10, 11, 12, 13, 14, 15, 19, 23] [16, 17, 18, 20, 21, 22, 24, 25] u v.1) ∨ (res.1 = 0 ∧ r = nI (res.2.2.1 15) ∧ v.1.1 11 = -1 ∧ WovM u v.1 res.2.2))) ∧ v.2 = (lt, sj)) (fun v t => PP G (mw G h v.1 v.2.1 v.2.2) t.heap) A) ([.ref (h 0)] : List Value).toArray s 0 0 A) (F0 m 29 ls []) := by
    intro n29m
    induction n29m with
    | zero => intro f x w mm hWq htx_w hF hG hf4 hmu H locs ls hP hD hS hl; exact absurd hmu (Nat.not_lt_zero _)
    | succ n29m ih29 =>
      intro f x w mm hWq htx_w hF hG hf4 hmu H locs ls hP hD hS hl
      refine lv_iload_n hx hb dX5_weave_29 rfl (lv_at hl 1 rfl) ?_
      refine lv_if_ne (tgt := 68) hx hb dX5_weave_30 (by decide) (fun c30 => ?_) (fun c30 => ?_)
      · skip
        have n30 : ¬ (f = 0) := fun q9 => c30 ((nI_eq (a := f) (b := 0) (by omega) (by omega)).mpr q9)
        refine lv_iload_n hx hb dX5_weave_68 rfl (lv_at hl 1 rfl) ?_
        refine lv_if_ne (tgt := 91) hx hb dX5_weave_69 (by decide) (fun c69 => ?_) (fun c69 => ?_)
        · skip
          have n69 : ¬ (f = 0) := fun q9 => c69 ((nI_eq (a := f) (b := 0) (by omega) (by omega)).mpr q9)
          refine lv_iload_n hx hb dX5_weave_91 rfl (lv_at hl 1 rfl) ?_
          refine lv_istore_n (lv' := [(1, .int (nI f)), (0, .ref (h 0)), (2, .int x)]) hx hb dX5_weave_92 rfl hl (by decide) rfl (fun ls hl => ?_)
          refine lv_aload_n hx hb dX5_weave_93 rfl (lv_at hl 1 rfl) ?_
          refine lv_iconst (v := nI 0) hx hb dX5_weave_94 (by decide) ?_
          refine va_put (D := gD G) (ci := 5) (v := .int (nI 0)) (ty := .int) (C := RX5) (T := TX5) (N := 38) hx hb hts hiX5 tyX5 tyX5_ok nmX5 hown hK hP hD hS 0 rfl rfl 10 (by decide) k101 (fun _ h9 => h9) rfl (tyX5_ok 10 (by decide)) (rfl) (rfl) (Nat.le_of_ble_eq_true rfl) dX5_weave_95 (fun H locs hP hD hS => ?_)
          have hP : PP G (mw G h (oI w 10 (nI 0)) lt sj) H := hP
          have hD : va_D A (mw G h (oI w 10 (nI 0)) lt sj) := hD
          refine lv_iload_n hx hb dX5_weave_98 rfl (lv_at hl 0 rfl) ?_
          refine lv_if_le (tgt := 107) hx hb dX5_weave_99 (by decide) (fun c99 => ?_) (fun c99 => ?_)
          · skip
            have n99 : f ≤ 0 := (nI_leI (a := f) (b := 0) (by omega) (by omega)).mp c99
            omega
          · skip
            have n99 : ¬ (f ≤ 0) := fun q9 => c99 ((nI_leI (a := f) (b := 0) (by omega) (by omega)).mpr q9)
            refine lv_bipush (v := (-10 : Int32)) hx hb dX5_weave_102 (by decide) ?_
            refine lv_iload_n hx hb dX5_weave_104 rfl (lv_at hl 0 rfl) ?_
            refine lv_isub hx hb dX5_weave_105 ?_
            exact W.iret (v := (-10 : Int32) - (nI f)) hx hb hr (fun t ht hW => ⟨⟨(-10 : Int32) - (nI f), (oI w 10 (nI 0), lt, sj), rfl, ⟨by obtain ⟨p9, s9, h9, h10⟩ := hG n30; exact ⟨(f, p9, s9), h9, rfl, ⟨nv, nl, 0, nh, MIx_rd hI0 (by repeat (first | exact rel.refl _ | exact rel.mono (by assumption) (by decide) (by decide) | refine rel.I (by decide) ?_ | refine rel.A (by decide) ?_ | refine rel.trans ?_ (rel.mono (by assumption) (by decide) (by decide))))⟩, hWq.2 32 (by decide), hWq.2 33 (by decide), Or.inl ⟨n30, rfl, h10, (by repeat (first | exact rel.refl _ | exact rel.mono (by assumption) (by decide) (by decide) | refine rel.I (by decide) ?_ | refine rel.A (by decide) ?_ | refine rel.trans ?_ (rel.mono (by assumption) (by decide) (by decide))) : rel [10, 11, 12, 13, 14, 15, 19, 23] [16, 17, 18, 20, 21, 22, 24, 25] u _)⟩⟩, rfl⟩, show PP G (mw G h (oI w 10 (nI 0)) lt sj) t.heap by rw [ht]; exact hP⟩, hS.F ht⟩) hS.2.2 dX5_weave_106
        · skip
          have n69 : f = 0 := (nI_eq (a := f) (b := 0) (by omega) (by omega)).mp c69
          omega
      · skip
        have n30 : f = 0 := (nI_eq (a := f) (b := 0) (by omega) (by omega)).mp c30
        obtain ⟨s1, hS1, hmm, h11, hEv⟩ := hF n30
        obtain ⟨e10, e12, e15, e19, e23, ⟨q240, qa, qv, ql, qd, qpar⟩, hrw⟩ := id hS1
        refine lv_aload_n hx hb dX5_weave_33 rfl (lv_at hl 0 rfl) ?_
        refine cXi (As := []) (rest := []) (S := oS × Int64 × (Nat → Int64)) (wa := mw G h w lt sj) (w1 := fun v => mw G h v.1 v.2.1 v.2.2) ⟨hx, hb, hml, hown, hts⟩ (mt_X5_here l G h _ w lt sj nt (s1.1 12) tx (e10) (e12) (by first | assumption | omega) (by first | assumption | omega) (htx_w)) (cwV 0 hts gX5_weave_X5_here rfl rfl rfl ⟨rfl, hd_X5_here⟩ ⟨Nat.le_of_ble_eq_true rfl, Nat.le_of_ble_eq_true rfl⟩) hK hN hP hD hS hA (fun _ => rfl) 0 5 rfl rfl rfl hl.1 rfl (Nat.le_of_ble_eq_true rfl) ⟨Nat.zero_le _, Nat.zero_le _⟩ dX5_weave_34 (fun r34 u34 H locs hw34 hP hD hS => ?_)
        obtain ⟨rfl, rfl⟩ := hw34
        have hP : PP G (mw G h (oI w 12 (nI (sk tx nt (s1.1 12)))) lt sj) H := hP
        have hD : va_D A (mw G h (oI w 12 (nI (sk tx nt (s1.1 12)))) lt sj) := hD
        have hge34 : (s1.1 12) ≤ sk tx nt (s1.1 12) := rn_ge _
        have hle34 : sk tx nt (s1.1 12) ≤ nt := rn_le (by omega)
        refine lv_if_lt (tgt := 68) hx hb dX5_weave_37 (by decide) (fun c37 => ?_) (fun c37 => ?_)
        · skip
          have hend : ¬ sk tx nt (s1.1 12) < nt := fun q => by rw [hd_in q] at c37; obtain ⟨j9, hj9, ej9⟩ := hlet _ q; rw [ej9] at c37; exact nI_pos (by omega) c37
          refine lv_iload_n hx hb dX5_weave_68 rfl (lv_at hl 1 rfl) ?_
          refine lv_if_ne (tgt := 91) hx hb dX5_weave_69 (by decide) (fun c69 => ?_) (fun c69 => ?_)
          · skip
            have n69 : ¬ (f = 0) := fun q9 => c69 ((nI_eq (a := f) (b := 0) (by omega) (by omega)).mpr q9)
            omega
          · skip
            have n69 : f = 0 := (nI_eq (a := f) (b := 0) (by omega) (by omega)).mp c69
            refine lv_aload_n hx hb dX5_weave_72 rfl (lv_at hl 0 rfl) ?_
            refine va_get (D := gD G) (ci := 5) (v := .int (w.1 23)) (C := RX5) (T := TX5) (N := 38) hx hb hts hiX5 hown hK hP 0 rfl rfl 23 (by decide) k143 (fun _ h9 => h9) rfl dX5_weave_73 ?_
            refine topE e23 ?_
            refine lv_if_le (tgt := 91) hx hb dX5_weave_76 (by decide) (fun c76 => ?_) (fun c76 => ?_)
            · skip
              have n76 : (s1.1 23) ≤ 0 := (nI_leI (a := s1.1 23) (b := 0) (by omega) (by omega)).mp c76
              refine lv_iload_n hx hb dX5_weave_91 rfl (lv_at hl 1 rfl) ?_
              refine lv_istore_n (lv' := [(1, .int (nI f)), (0, .ref (h 0)), (2, .int x)]) hx hb dX5_weave_92 rfl hl (by decide) rfl (fun ls hl => ?_)
              refine lv_aload_n hx hb dX5_weave_93 rfl (lv_at hl 1 rfl) ?_
              refine lv_iconst (v := nI 0) hx hb dX5_weave_94 (by decide) ?_
              refine va_put (D := gD G) (ci := 5) (v := .int (nI 0)) (ty := .int) (C := RX5) (T := TX5) (N := 38) hx hb hts hiX5 tyX5 tyX5_ok nmX5 hown hK hP hD hS 0 rfl rfl 10 (by decide) k101 (fun _ h9 => h9) rfl (tyX5_ok 10 (by decide)) (rfl) (rfl) (Nat.le_of_ble_eq_true rfl) dX5_weave_95 (fun H locs hP hD hS => ?_)
              have hP : PP G (mw G h (oI (oI w 12 (nI (sk tx nt (s1.1 12)))) 10 (nI 0)) lt sj) H := hP
              have hD : va_D A (mw G h (oI (oI w 12 (nI (sk tx nt (s1.1 12)))) 10 (nI 0)) lt sj) := hD
              refine lv_iload_n hx hb dX5_weave_98 rfl (lv_at hl 0 rfl) ?_
              refine lv_if_le (tgt := 107) hx hb dX5_weave_99 (by decide) (fun c99 => ?_) (fun c99 => ?_)
              · skip
                have n99 : f ≤ 0 := (nI_leI (a := f) (b := 0) (by omega) (by omega)).mp c99
                refine lv_aload_n hx hb dX5_weave_107 rfl (lv_at hl 1 rfl) ?_
                refine lv_aload_n hx hb dX5_weave_108 rfl (lv_at hl 1 rfl) ?_
                refine va_get (D := gD G) (ci := 5) (v := .int (w.1 15)) (C := RX5) (T := TX5) (N := 38) hx hb hts hiX5 hown hK hP 0 rfl rfl 15 (by decide) k129 (fun _ h9 => h9) rfl dX5_weave_109 ?_
                refine topE e15 ?_
                refine va_put (D := gD G) (ci := 5) (v := .int (nI (s1.1 15))) (ty := .int) (C := RX5) (T := TX5) (N := 38) hx hb hts hiX5 tyX5 tyX5_ok nmX5 hown hK hP hD hS 0 rfl rfl 0 (by decide) k91 (fun _ h9 => h9) rfl (tyX5_ok 0 (by decide)) (rfl) (rfl) (Nat.le_of_ble_eq_true rfl) dX5_weave_112 (fun H locs hP hD hS => ?_)
                have hP : PP G (mw G h (oI (oI (oI w 12 (nI (sk tx nt (s1.1 12)))) 10 (nI 0)) 0 (nI (s1.1 15))) lt sj) H := hP
                have hD : va_D A (mw G h (oI (oI (oI w 12 (nI (sk tx nt (s1.1 12)))) 10 (nI 0)) 0 (nI (s1.1 15))) lt sj) := hD
                refine lv_aload_n hx hb dX5_weave_115 rfl (lv_at hl 1 rfl) ?_
                refine va_get (D := gD G) (ci := 5) (v := .ref (h 16)) (C := RX5) (T := TX5) (N := 38) hx hb hts hiX5 hown hK hP 0 rfl rfl 16 (by decide) k35 (fun _ h9 => h9) rfl dX5_weave_116 ?_
                refine lv_aload_n hx hb dX5_weave_119 rfl (lv_at hl 1 rfl) ?_
                refine va_get (D := gD G) (ci := 5) (v := .ref (h 1)) (C := RX5) (T := TX5) (N := 38) hx hb hts hiX5 hown hK hP 0 rfl rfl 1 (by decide) k7 (fun _ h9 => h9) rfl dX5_weave_120 ?_
                refine lv_aload_n hx hb dX5_weave_123 rfl (lv_at hl 1 rfl) ?_
                refine va_get (D := gD G) (ci := 5) (v := .int (nI (s1.1 15))) (C := RX5) (T := TX5) (N := 38) hx hb hts hiX5 hown hK hP 0 rfl rfl 0 (by decide) k91 (fun _ h9 => h9) rfl dX5_weave_124 ?_
                refine cSWv (As := [.ref (h 16), .ref (h 1), .int (nI (s1.1 15))]) (rest := []) (wa := mw G h (oI (oI (oI w 12 (nI (sk tx nt (s1.1 12)))) 10 (nI 0)) 0 (nI (s1.1 15))) lt sj) (wc := aw G (h 16) (h 1) 24 25 (w.2 16) (w.2 1)) (w1 := aw G (h 16) (h 1) 24 25 (w.2 16) (cpr (w.2 16) (w.2 1) (s1.1 15))) (wa' := mw G h (oA (oI (oI (oI w 12 (nI (sk tx nt (s1.1 12)))) 10 (nI 0)) 0 (nI (s1.1 15))) 1 (cpr (w.2 16) (w.2 1) (s1.1 15))) lt sj) ⟨hx, hb, hml, hown, hts⟩ (mt_copyRow l G _ (h 16) (h 1) 24 25 (w.2 16) (w.2 1) (s1.1 15) (by omega) (by omega) rfl rfl) (va_cwS 3 hts gX5_weave_X5_copyRow rfl rfl rfl hd_X5_copyRow ⟨Nat.le_of_ble_eq_true rfl, Nat.le_of_ble_eq_true rfl⟩) hK hN hP hD hS hA [8, 1] rfl (by decide) rfl rfl rfl rfl rfl hl.1 rfl (Nat.le_of_ble_eq_true rfl) ⟨Nat.zero_le _, Nat.zero_le _⟩ dX5_weave_127 (fun H locs hP hD hS => ?_)
                refine lv_aload_n hx hb dX5_weave_130 rfl (lv_at hl 1 rfl) ?_
                refine va_get (D := gD G) (ci := 5) (v := .ref (h 17)) (C := RX5) (T := TX5) (N := 38) hx hb hts hiX5 hown hK hP 0 rfl rfl 17 (by decide) k38 (fun _ h9 => h9) rfl dX5_weave_131 ?_
                refine lv_aload_n hx hb dX5_weave_134 rfl (lv_at hl 1 rfl) ?_
                refine va_get (D := gD G) (ci := 5) (v := .ref (h 2)) (C := RX5) (T := TX5) (N := 38) hx hb hts hiX5 hown hK hP 0 rfl rfl 2 (by decide) k13 (fun _ h9 => h9) rfl dX5_weave_135 ?_
                refine lv_aload_n hx hb dX5_weave_138 rfl (lv_at hl 1 rfl) ?_
                refine va_get (D := gD G) (ci := 5) (v := .int (nI (s1.1 15))) (C := RX5) (T := TX5) (N := 38) hx hb hts hiX5 hown hK hP 0 rfl rfl 0 (by decide) k91 (fun _ h9 => h9) rfl dX5_weave_139 ?_
                refine cSWv (As := [.ref (h 17), .ref (h 2), .int (nI (s1.1 15))]) (rest := []) (wa := mw G h (oA (oI (oI (oI w 12 (nI (sk tx nt (s1.1 12)))) 10 (nI 0)) 0 (nI (s1.1 15))) 1 (cpr (w.2 16) (w.2 1) (s1.1 15))) lt sj) (wc := aw G (h 17) (h 2) 24 25 (w.2 17) (w.2 2)) (w1 := aw G (h 17) (h 2) 24 25 (w.2 17) (cpr (w.2 17) (w.2 2) (s1.1 15))) (wa' := mw G h (oA (oA (oI (oI (oI w 12 (nI (sk tx nt (s1.1 12)))) 10 (nI 0)) 0 (nI (s1.1 15))) 1 (cpr (w.2 16) (w.2 1) (s1.1 15))) 2 (cpr (w.2 17) (w.2 2) (s1.1 15))) lt sj) ⟨hx, hb, hml, hown, hts⟩ (mt_copyRow l G _ (h 17) (h 2) 24 25 (w.2 17) (w.2 2) (s1.1 15) (by omega) (by omega) rfl rfl) (va_cwS 3 hts gX5_weave_X5_copyRow rfl rfl rfl hd_X5_copyRow ⟨Nat.le_of_ble_eq_true rfl, Nat.le_of_ble_eq_true rfl⟩) hK hN hP hD hS hA [9, 2] rfl (by decide) rfl rfl rfl rfl rfl hl.1 rfl (Nat.le_of_ble_eq_true rfl) ⟨Nat.zero_le _, Nat.zero_le _⟩ dX5_weave_142 (fun H locs hP hD hS => ?_)
                refine lv_aload_n hx hb dX5_weave_145 rfl (lv_at hl 1 rfl) ?_
                refine va_get (D := gD G) (ci := 5) (v := .ref (h 18)) (C := RX5) (T := TX5) (N := 38) hx hb hts hiX5 hown hK hP 0 rfl rfl 18 (by decide) k41 (fun _ h9 => h9) rfl dX5_weave_146 ?_
                refine lv_aload_n hx hb dX5_weave_149 rfl (lv_at hl 1 rfl) ?_
                refine va_get (D := gD G) (ci := 5) (v := .ref (h 3)) (C := RX5) (T := TX5) (N := 38) hx hb hts hiX5 hown hK hP 0 rfl rfl 3 (by decide) k16 (fun _ h9 => h9) rfl dX5_weave_150 ?_
                refine lv_aload_n hx hb dX5_weave_153 rfl (lv_at hl 1 rfl) ?_
                refine va_get (D := gD G) (ci := 5) (v := .int (nI (s1.1 15))) (C := RX5) (T := TX5) (N := 38) hx hb hts hiX5 hown hK hP 0 rfl rfl 0 (by decide) k91 (fun _ h9 => h9) rfl dX5_weave_154 ?_
                refine cSWv (As := [.ref (h 18), .ref (h 3), .int (nI (s1.1 15))]) (rest := []) (wa := mw G h (oA (oA (oI (oI (oI w 12 (nI (sk tx nt (s1.1 12)))) 10 (nI 0)) 0 (nI (s1.1 15))) 1 (cpr (w.2 16) (w.2 1) (s1.1 15))) 2 (cpr (w.2 17) (w.2 2) (s1.1 15))) lt sj) (wc := aw G (h 18) (h 3) 24 25 (w.2 18) (w.2 3)) (w1 := aw G (h 18) (h 3) 24 25 (w.2 18) (cpr (w.2 18) (w.2 3) (s1.1 15))) (wa' := mw G h (oA (oA (oA (oI (oI (oI w 12 (nI (sk tx nt (s1.1 12)))) 10 (nI 0)) 0 (nI (s1.1 15))) 1 (cpr (w.2 16) (w.2 1) (s1.1 15))) 2 (cpr (w.2 17) (w.2 2) (s1.1 15))) 3 (cpr (w.2 18) (w.2 3) (s1.1 15))) lt sj) ⟨hx, hb, hml, hown, hts⟩ (mt_copyRow l G _ (h 18) (h 3) 24 25 (w.2 18) (w.2 3) (s1.1 15) (by omega) (by omega) rfl rfl) (va_cwS 3 hts gX5_weave_X5_copyRow rfl rfl rfl hd_X5_copyRow ⟨Nat.le_of_ble_eq_true rfl, Nat.le_of_ble_eq_true rfl⟩) hK hN hP hD hS hA [10, 3] rfl (by decide) rfl rfl rfl rfl rfl hl.1 rfl (Nat.le_of_ble_eq_true rfl) ⟨Nat.zero_le _, Nat.zero_le _⟩ dX5_weave_157 (fun H locs hP hD hS => ?_)
                refine lv_aload_n hx hb dX5_weave_160 rfl (lv_at hl 1 rfl) ?_
                refine lv_aload_n hx hb dX5_weave_161 rfl (lv_at hl 1 rfl) ?_
                refine va_get (D := gD G) (ci := 5) (v := .int (w.1 19)) (C := RX5) (T := TX5) (N := 38) hx hb hts hiX5 hown hK hP 0 rfl rfl 19 (by decide) k150 (fun _ h9 => h9) rfl dX5_weave_162 ?_
                refine topE e19 ?_
                refine va_put (D := gD G) (ci := 5) (v := .int (nI (s1.1 19))) (ty := .int) (C := RX5) (T := TX5) (N := 38) hx hb hts hiX5 tyX5 tyX5_ok nmX5 hown hK hP hD hS 0 rfl rfl 4 (by decide) k175 (fun _ h9 => h9) rfl (tyX5_ok 4 (by decide)) (rfl) (rfl) (Nat.le_of_ble_eq_true rfl) dX5_weave_165 (fun H locs hP hD hS => ?_)
                have hP : PP G (mw G h (oI (oA (oA (oA (oI (oI (oI w 12 (nI (sk tx nt (s1.1 12)))) 10 (nI 0)) 0 (nI (s1.1 15))) 1 (cpr (w.2 16) (w.2 1) (s1.1 15))) 2 (cpr (w.2 17) (w.2 2) (s1.1 15))) 3 (cpr (w.2 18) (w.2 3) (s1.1 15))) 4 (nI (s1.1 19))) lt sj) H := hP
                have hD : va_D A (mw G h (oI (oA (oA (oA (oI (oI (oI w 12 (nI (sk tx nt (s1.1 12)))) 10 (nI 0)) 0 (nI (s1.1 15))) 1 (cpr (w.2 16) (w.2 1) (s1.1 15))) 2 (cpr (w.2 17) (w.2 2) (s1.1 15))) 3 (cpr (w.2 18) (w.2 3) (s1.1 15))) 4 (nI (s1.1 19))) lt sj) := hD
                refine lv_aload_n hx hb dX5_weave_168 rfl (lv_at hl 1 rfl) ?_
                refine va_get (D := gD G) (ci := 5) (v := .ref (h 20)) (C := RX5) (T := TX5) (N := 38) hx hb hts hiX5 hown hK hP 0 rfl rfl 20 (by decide) k44 (fun _ h9 => h9) rfl dX5_weave_169 ?_
                refine lv_aload_n hx hb dX5_weave_172 rfl (lv_at hl 1 rfl) ?_
                refine va_get (D := gD G) (ci := 5) (v := .ref (h 5)) (C := RX5) (T := TX5) (N := 38) hx hb hts hiX5 hown hK hP 0 rfl rfl 5 (by decide) k19 (fun _ h9 => h9) rfl dX5_weave_173 ?_
                refine lv_aload_n hx hb dX5_weave_176 rfl (lv_at hl 1 rfl) ?_
                refine va_get (D := gD G) (ci := 5) (v := .int (nI (s1.1 19))) (C := RX5) (T := TX5) (N := 38) hx hb hts hiX5 hown hK hP 0 rfl rfl 4 (by decide) k175 (fun _ h9 => h9) rfl dX5_weave_177 ?_
                refine cSWv (As := [.ref (h 20), .ref (h 5), .int (nI (s1.1 19))]) (rest := []) (wa := mw G h (oI (oA (oA (oA (oI (oI (oI w 12 (nI (sk tx nt (s1.1 12)))) 10 (nI 0)) 0 (nI (s1.1 15))) 1 (cpr (w.2 16) (w.2 1) (s1.1 15))) 2 (cpr (w.2 17) (w.2 2) (s1.1 15))) 3 (cpr (w.2 18) (w.2 3) (s1.1 15))) 4 (nI (s1.1 19))) lt sj) (wc := aw G (h 20) (h 5) 120 120 (w.2 20) (w.2 5)) (w1 := aw G (h 20) (h 5) 120 120 (w.2 20) (cpr (w.2 20) (w.2 5) (s1.1 19))) (wa' := mw G h (oA (oI (oA (oA (oA (oI (oI (oI w 12 (nI (sk tx nt (s1.1 12)))) 10 (nI 0)) 0 (nI (s1.1 15))) 1 (cpr (w.2 16) (w.2 1) (s1.1 15))) 2 (cpr (w.2 17) (w.2 2) (s1.1 15))) 3 (cpr (w.2 18) (w.2 3) (s1.1 15))) 4 (nI (s1.1 19))) 5 (cpr (w.2 20) (w.2 5) (s1.1 19))) lt sj) ⟨hx, hb, hml, hown, hts⟩ (mt_copyRow l G _ (h 20) (h 5) 120 120 (w.2 20) (w.2 5) (s1.1 19) (by omega) (by omega) rfl rfl) (va_cwS 3 hts gX5_weave_X5_copyRow rfl rfl rfl hd_X5_copyRow ⟨Nat.le_of_ble_eq_true rfl, Nat.le_of_ble_eq_true rfl⟩) hK hN hP hD hS hA [11, 4] rfl (by decide) rfl rfl rfl rfl rfl hl.1 rfl (Nat.le_of_ble_eq_true rfl) ⟨Nat.zero_le _, Nat.zero_le _⟩ dX5_weave_180 (fun H locs hP hD hS => ?_)
                refine lv_aload_n hx hb dX5_weave_183 rfl (lv_at hl 1 rfl) ?_
                refine va_get (D := gD G) (ci := 5) (v := .ref (h 21)) (C := RX5) (T := TX5) (N := 38) hx hb hts hiX5 hown hK hP 0 rfl rfl 21 (by decide) k47 (fun _ h9 => h9) rfl dX5_weave_184 ?_
                refine lv_aload_n hx hb dX5_weave_187 rfl (lv_at hl 1 rfl) ?_
                refine va_get (D := gD G) (ci := 5) (v := .ref (h 6)) (C := RX5) (T := TX5) (N := 38) hx hb hts hiX5 hown hK hP 0 rfl rfl 6 (by decide) k22 (fun _ h9 => h9) rfl dX5_weave_188 ?_
                refine lv_aload_n hx hb dX5_weave_191 rfl (lv_at hl 1 rfl) ?_
                refine va_get (D := gD G) (ci := 5) (v := .int (nI (s1.1 19))) (C := RX5) (T := TX5) (N := 38) hx hb hts hiX5 hown hK hP 0 rfl rfl 4 (by decide) k175 (fun _ h9 => h9) rfl dX5_weave_192 ?_
                refine cSWv (As := [.ref (h 21), .ref (h 6), .int (nI (s1.1 19))]) (rest := []) (wa := mw G h (oA (oI (oA (oA (oA (oI (oI (oI w 12 (nI (sk tx nt (s1.1 12)))) 10 (nI 0)) 0 (nI (s1.1 15))) 1 (cpr (w.2 16) (w.2 1) (s1.1 15))) 2 (cpr (w.2 17) (w.2 2) (s1.1 15))) 3 (cpr (w.2 18) (w.2 3) (s1.1 15))) 4 (nI (s1.1 19))) 5 (cpr (w.2 20) (w.2 5) (s1.1 19))) lt sj) (wc := aw G (h 21) (h 6) 120 120 (w.2 21) (w.2 6)) (w1 := aw G (h 21) (h 6) 120 120 (w.2 21) (cpr (w.2 21) (w.2 6) (s1.1 19))) (wa' := mw G h (oA (oA (oI (oA (oA (oA (oI (oI (oI w 12 (nI (sk tx nt (s1.1 12)))) 10 (nI 0)) 0 (nI (s1.1 15))) 1 (cpr (w.2 16) (w.2 1) (s1.1 15))) 2 (cpr (w.2 17) (w.2 2) (s1.1 15))) 3 (cpr (w.2 18) (w.2 3) (s1.1 15))) 4 (nI (s1.1 19))) 5 (cpr (w.2 20) (w.2 5) (s1.1 19))) 6 (cpr (w.2 21) (w.2 6) (s1.1 19))) lt sj) ⟨hx, hb, hml, hown, hts⟩ (mt_copyRow l G _ (h 21) (h 6) 120 120 (w.2 21) (w.2 6) (s1.1 19) (by omega) (by omega) rfl rfl) (va_cwS 3 hts gX5_weave_X5_copyRow rfl rfl rfl hd_X5_copyRow ⟨Nat.le_of_ble_eq_true rfl, Nat.le_of_ble_eq_true rfl⟩) hK hN hP hD hS hA [12, 5] rfl (by decide) rfl rfl rfl rfl rfl hl.1 rfl (Nat.le_of_ble_eq_true rfl) ⟨Nat.zero_le _, Nat.zero_le _⟩ dX5_weave_195 (fun H locs hP hD hS => ?_)
                refine lv_aload_n hx hb dX5_weave_198 rfl (lv_at hl 1 rfl) ?_
                refine va_get (D := gD G) (ci := 5) (v := .ref (h 22)) (C := RX5) (T := TX5) (N := 38) hx hb hts hiX5 hown hK hP 0 rfl rfl 22 (by decide) k50 (fun _ h9 => h9) rfl dX5_weave_199 ?_
                refine lv_aload_n hx hb dX5_weave_202 rfl (lv_at hl 1 rfl) ?_
                refine va_get (D := gD G) (ci := 5) (v := .ref (h 7)) (C := RX5) (T := TX5) (N := 38) hx hb hts hiX5 hown hK hP 0 rfl rfl 7 (by decide) k25 (fun _ h9 => h9) rfl dX5_weave_203 ?_
                refine lv_aload_n hx hb dX5_weave_206 rfl (lv_at hl 1 rfl) ?_
                refine va_get (D := gD G) (ci := 5) (v := .int (nI (s1.1 19))) (C := RX5) (T := TX5) (N := 38) hx hb hts hiX5 hown hK hP 0 rfl rfl 4 (by decide) k175 (fun _ h9 => h9) rfl dX5_weave_207 ?_
                refine cSWv (As := [.ref (h 22), .ref (h 7), .int (nI (s1.1 19))]) (rest := []) (wa := mw G h (oA (oA (oI (oA (oA (oA (oI (oI (oI w 12 (nI (sk tx nt (s1.1 12)))) 10 (nI 0)) 0 (nI (s1.1 15))) 1 (cpr (w.2 16) (w.2 1) (s1.1 15))) 2 (cpr (w.2 17) (w.2 2) (s1.1 15))) 3 (cpr (w.2 18) (w.2 3) (s1.1 15))) 4 (nI (s1.1 19))) 5 (cpr (w.2 20) (w.2 5) (s1.1 19))) 6 (cpr (w.2 21) (w.2 6) (s1.1 19))) lt sj) (wc := aw G (h 22) (h 7) 120 120 (w.2 22) (w.2 7)) (w1 := aw G (h 22) (h 7) 120 120 (w.2 22) (cpr (w.2 22) (w.2 7) (s1.1 19))) (wa' := mw G h (oA (oA (oA (oI (oA (oA (oA (oI (oI (oI w 12 (nI (sk tx nt (s1.1 12)))) 10 (nI 0)) 0 (nI (s1.1 15))) 1 (cpr (w.2 16) (w.2 1) (s1.1 15))) 2 (cpr (w.2 17) (w.2 2) (s1.1 15))) 3 (cpr (w.2 18) (w.2 3) (s1.1 15))) 4 (nI (s1.1 19))) 5 (cpr (w.2 20) (w.2 5) (s1.1 19))) 6 (cpr (w.2 21) (w.2 6) (s1.1 19))) 7 (cpr (w.2 22) (w.2 7) (s1.1 19))) lt sj) ⟨hx, hb, hml, hown, hts⟩ (mt_copyRow l G _ (h 22) (h 7) 120 120 (w.2 22) (w.2 7) (s1.1 19) (by omega) (by omega) rfl rfl) (va_cwS 3 hts gX5_weave_X5_copyRow rfl rfl rfl hd_X5_copyRow ⟨Nat.le_of_ble_eq_true rfl, Nat.le_of_ble_eq_true rfl⟩) hK hN hP hD hS hA [13, 6] rfl (by decide) rfl rfl rfl rfl rfl hl.1 rfl (Nat.le_of_ble_eq_true rfl) ⟨Nat.zero_le _, Nat.zero_le _⟩ dX5_weave_210 (fun H locs hP hD hS => ?_)
                refine lv_aload_n hx hb dX5_weave_213 rfl (lv_at hl 1 rfl) ?_
                refine lv_iconst (v := nI 0) hx hb dX5_weave_214 (by decide) ?_
                refine va_put (D := gD G) (ci := 5) (v := .int (nI 0)) (ty := .boolean) (C := RX5) (T := TX5) (N := 38) hx hb hts hiX5 tyX5 tyX5_ok nmX5 hown hK hP hD hS 0 rfl rfl 8 (by decide) k178 (fun _ h9 => h9) rfl (tyX5_ok 8 (by decide)) (rfl) (rfl) (Nat.le_of_ble_eq_true rfl) dX5_weave_215 (fun H locs hP hD hS => ?_)
                have hP : PP G (mw G h (oI (oA (oA (oA (oI (oA (oA (oA (oI (oI (oI w 12 (nI (sk tx nt (s1.1 12)))) 10 (nI 0)) 0 (nI (s1.1 15))) 1 (cpr (w.2 16) (w.2 1) (s1.1 15))) 2 (cpr (w.2 17) (w.2 2) (s1.1 15))) 3 (cpr (w.2 18) (w.2 3) (s1.1 15))) 4 (nI (s1.1 19))) 5 (cpr (w.2 20) (w.2 5) (s1.1 19))) 6 (cpr (w.2 21) (w.2 6) (s1.1 19))) 7 (cpr (w.2 22) (w.2 7) (s1.1 19))) 8 (nI 0)) lt sj) H := hP
                have hD : va_D A (mw G h (oI (oA (oA (oA (oI (oA (oA (oA (oI (oI (oI w 12 (nI (sk tx nt (s1.1 12)))) 10 (nI 0)) 0 (nI (s1.1 15))) 1 (cpr (w.2 16) (w.2 1) (s1.1 15))) 2 (cpr (w.2 17) (w.2 2) (s1.1 15))) 3 (cpr (w.2 18) (w.2 3) (s1.1 15))) 4 (nI (s1.1 19))) 5 (cpr (w.2 20) (w.2 5) (s1.1 19))) 6 (cpr (w.2 21) (w.2 6) (s1.1 19))) 7 (cpr (w.2 22) (w.2 7) (s1.1 19))) 8 (nI 0)) lt sj) := hD
                refine lv_aload_n hx hb dX5_weave_218 rfl (lv_at hl 1 rfl) ?_
                refine va_get (D := gD G) (ci := 5) (v := .ref (h 35)) (C := RX5) (T := TX5) (N := 38) hx hb hts hiX5 hown hK hP 0 rfl rfl 35 (by decide) k82 (fun _ h9 => h9) rfl dX5_weave_219 ?_
                refine lv_iconst (v := nI 0) hx hb dX5_weave_222 (by decide) ?_
                refine lv_iconst (v := (-1 : Int32)) hx hb dX5_weave_223 (by decide) ?_
                refine iastN (f := w.2 35) (n := 2) (k := 0) hx hb hK hP hD hS 23 rfl rfl (by omega) dX5_weave_224 (fun H locs hP hD hS => ?_)
                have hP : PP G (mw G h (oA (oI (oA (oA (oA (oI (oA (oA (oA (oI (oI (oI w 12 (nI (sk tx nt (s1.1 12)))) 10 (nI 0)) 0 (nI (s1.1 15))) 1 (cpr (w.2 16) (w.2 1) (s1.1 15))) 2 (cpr (w.2 17) (w.2 2) (s1.1 15))) 3 (cpr (w.2 18) (w.2 3) (s1.1 15))) 4 (nI (s1.1 19))) 5 (cpr (w.2 20) (w.2 5) (s1.1 19))) 6 (cpr (w.2 21) (w.2 6) (s1.1 19))) 7 (cpr (w.2 22) (w.2 7) (s1.1 19))) 8 (nI 0)) 35 (upd (w.2 35) 0 (-1 : Int32))) lt sj) H := hP
                have hD : va_D A (mw G h (oA (oI (oA (oA (oA (oI (oA (oA (oA (oI (oI (oI w 12 (nI (sk tx nt (s1.1 12)))) 10 (nI 0)) 0 (nI (s1.1 15))) 1 (cpr (w.2 16) (w.2 1) (s1.1 15))) 2 (cpr (w.2 17) (w.2 2) (s1.1 15))) 3 (cpr (w.2 18) (w.2 3) (s1.1 15))) 4 (nI (s1.1 19))) 5 (cpr (w.2 20) (w.2 5) (s1.1 19))) 6 (cpr (w.2 21) (w.2 6) (s1.1 19))) 7 (cpr (w.2 22) (w.2 7) (s1.1 19))) 8 (nI 0)) 35 (upd (w.2 35) 0 (-1 : Int32))) lt sj) := hD
                refine lv_aload_n hx hb dX5_weave_225 rfl (lv_at hl 1 rfl) ?_
                refine va_get (D := gD G) (ci := 5) (v := .ref (h 35)) (C := RX5) (T := TX5) (N := 38) hx hb hts hiX5 hown hK hP 0 rfl rfl 35 (by decide) k82 (fun _ h9 => h9) rfl dX5_weave_226 ?_
                refine lv_iconst (v := nI 1) hx hb dX5_weave_229 (by decide) ?_
                refine lv_iconst (v := (-1 : Int32)) hx hb dX5_weave_230 (by decide) ?_
                refine iastN (f := upd (w.2 35) 0 (-1 : Int32)) (n := 2) (k := 1) hx hb hK hP hD hS 23 rfl rfl (by omega) dX5_weave_231 (fun H locs hP hD hS => ?_)
                have hP : PP G (mw G h (oA (oA (oI (oA (oA (oA (oI (oA (oA (oA (oI (oI (oI w 12 (nI (sk tx nt (s1.1 12)))) 10 (nI 0)) 0 (nI (s1.1 15))) 1 (cpr (w.2 16) (w.2 1) (s1.1 15))) 2 (cpr (w.2 17) (w.2 2) (s1.1 15))) 3 (cpr (w.2 18) (w.2 3) (s1.1 15))) 4 (nI (s1.1 19))) 5 (cpr (w.2 20) (w.2 5) (s1.1 19))) 6 (cpr (w.2 21) (w.2 6) (s1.1 19))) 7 (cpr (w.2 22) (w.2 7) (s1.1 19))) 8 (nI 0)) 35 (upd (w.2 35) 0 (-1 : Int32))) 35 (upd (upd (w.2 35) 0 (-1 : Int32)) 1 (-1 : Int32))) lt sj) H := hP
                have hD : va_D A (mw G h (oA (oA (oI (oA (oA (oA (oI (oA (oA (oA (oI (oI (oI w 12 (nI (sk tx nt (s1.1 12)))) 10 (nI 0)) 0 (nI (s1.1 15))) 1 (cpr (w.2 16) (w.2 1) (s1.1 15))) 2 (cpr (w.2 17) (w.2 2) (s1.1 15))) 3 (cpr (w.2 18) (w.2 3) (s1.1 15))) 4 (nI (s1.1 19))) 5 (cpr (w.2 20) (w.2 5) (s1.1 19))) 6 (cpr (w.2 21) (w.2 6) (s1.1 19))) 7 (cpr (w.2 22) (w.2 7) (s1.1 19))) 8 (nI 0)) 35 (upd (w.2 35) 0 (-1 : Int32))) 35 (upd (upd (w.2 35) 0 (-1 : Int32)) 1 (-1 : Int32))) lt sj) := hD
                refine lv_aload_n hx hb dX5_weave_232 rfl (lv_at hl 1 rfl) ?_
                refine va_get (D := gD G) (ci := 5) (v := .int (nI (s1.1 15))) (C := RX5) (T := TX5) (N := 38) hx hb hts hiX5 hown hK hP 0 rfl rfl 0 (by decide) k91 (fun _ h9 => h9) rfl dX5_weave_233 ?_
                exact W.iret (v := nI (s1.1 15)) hx hb hr (fun t ht hW => ⟨⟨nI (s1.1 15), (oA (oA (oI (oA (oA (oA (oI (oA (oA (oA (oI (oI (oI w 12 (nI (sk tx nt (s1.1 12)))) 10 (nI 0)) 0 (nI (s1.1 15))) 1 (cpr (w.2 16) (w.2 1) (s1.1 15))) 2 (cpr (w.2 17) (w.2 2) (s1.1 15))) 3 (cpr (w.2 18) (w.2 3) (s1.1 15))) 4 (nI (s1.1 19))) 5 (cpr (w.2 20) (w.2 5) (s1.1 19))) 6 (cpr (w.2 21) (w.2 6) (s1.1 19))) 7 (cpr (w.2 22) (w.2 7) (s1.1 19))) 8 (nI 0)) 35 (upd (w.2 35) 0 (-1 : Int32))) 35 (upd (upd (w.2 35) 0 (-1 : Int32)) 1 (-1 : Int32)), lt, sj), rfl, ⟨⟨(0, 0, s1), hEv _ (pEv_0 hend (by omega)), rfl, ⟨s1.1 15, s1.1 19, 0, nh, MIx_woven (w := w) hI0 hWq qv ql (parRw hrw.1 qpar) rfl rfl rfl rfl rfl rfl rfl rfl⟩, hWq.2 32 (by decide), hWq.2 33 (by decide), Or.inr ⟨rfl, rfl, h11, ⟨rfl, rfl, rfl, rwE_cpr hrw.1, rwE_cpr hrw.2.1, rwE_cpr hrw.2.2.1, rwE_cpr hrw.2.2.2.1, rwE_cpr hrw.2.2.2.2.1, rwE_cpr hrw.2.2.2.2.2.1, kv2 _ _, by repeat (first | exact rel.refl _ | exact rel.mono (by assumption) (by decide) (by decide) | refine rel.I (by decide) ?_ | refine rel.A (by decide) ?_ | refine rel.trans ?_ (rel.mono (by assumption) (by decide) (by decide)))⟩⟩⟩, rfl⟩, show PP G (mw G h (oA (oA (oI (oA (oA (oA (oI (oA (oA (oA (oI (oI (oI w 12 (nI (sk tx nt (s1.1 12)))) 10 (nI 0)) 0 (nI (s1.1 15))) 1 (cpr (w.2 16) (w.2 1) (s1.1 15))) 2 (cpr (w.2 17) (w.2 2) (s1.1 15))) 3 (cpr (w.2 18) (w.2 3) (s1.1 15))) 4 (nI (s1.1 19))) 5 (cpr (w.2 20) (w.2 5) (s1.1 19))) 6 (cpr (w.2 21) (w.2 6) (s1.1 19))) 7 (cpr (w.2 22) (w.2 7) (s1.1 19))) 8 (nI 0)) 35 (upd (w.2 35) 0 (-1 : Int32))) 35 (upd (upd (w.2 35) 0 (-1 : Int32)) 1 (-1 : Int32))) lt sj) t.heap by rw [ht]; exact hP⟩, hS.F ht⟩) hS.2.2 dX5_weave_236
              · skip
                have n99 : ¬ (f ≤ 0) := fun q9 => c99 ((nI_leI (a := f) (b := 0) (by omega) (by omega)).mpr q9)
                omega
            · skip
              have n76 : ¬ ((s1.1 23) ≤ 0) := fun q9 => c76 ((nI_leI (a := s1.1 23) (b := 0) (by omega) (by omega)).mpr q9)
              refine lv_aload_n hx hb dX5_weave_79 rfl (lv_at hl 0 rfl) ?_
              refine lv_iconst (v := nI 1) hx hb dX5_weave_80 (by decide) ?_
              refine lv_aload_n hx hb dX5_weave_81 rfl (lv_at hl 0 rfl) ?_
              refine va_get (D := gD G) (ci := 5) (v := .int (w.1 10)) (C := RX5) (T := TX5) (N := 38) hx hb hts hiX5 hown hK hP 0 rfl rfl 10 (by decide) k101 (fun _ h9 => h9) rfl dX5_weave_82 ?_
              refine topE e10 ?_
              refine cXi (As := [.int (nI 1), .int (nI nt)]) (rest := []) (S := oS × Int64 × (Nat → Int64)) (wa := mw G h (oI w 12 (nI (sk tx nt (s1.1 12)))) lt sj) (w1 := fun v => mw G h v.1 v.2.1 v.2.2) ⟨hx, hb, hml, hown, hts⟩ (mt_X5_fails l G h _ (oI w 12 (nI (sk tx nt (s1.1 12)))) lt sj (nI 1) (nI nt)) (cwV 2 hts gX5_weave_X5_fails rfl rfl rfl ⟨rfl, hd_X5_fails⟩ ⟨Nat.le_of_ble_eq_true rfl, Nat.le_of_ble_eq_true rfl⟩) hK hN hP hD hS hA (fun _ => rfl) 0 5 rfl rfl rfl hl.1 rfl (Nat.le_of_ble_eq_true rfl) ⟨Nat.zero_le _, Nat.zero_le _⟩ dX5_weave_85 (fun r85 u85 H locs hw85 hP hD hS => ?_)
              obtain ⟨rfl, rfl⟩ := hw85
              have hP : PP G (mw G h (oI (oI w 12 (nI (sk tx nt (s1.1 12)))) 11 (nI nt)) lt sj) H := hP
              have hD : va_D A (mw G h (oI (oI w 12 (nI (sk tx nt (s1.1 12)))) 11 (nI nt)) lt sj) := hD
              refine lv_goto (tgt := 92) hx hb dX5_weave_88 (by decide) ?_
              refine lv_istore_n (lv' := [(1, .int (nI 1)), (0, .ref (h 0)), (2, .int x)]) hx hb dX5_weave_92 rfl hl (by decide) rfl (fun ls hl => ?_)
              refine lv_aload_n hx hb dX5_weave_93 rfl (lv_at hl 1 rfl) ?_
              refine lv_iconst (v := nI 0) hx hb dX5_weave_94 (by decide) ?_
              refine va_put (D := gD G) (ci := 5) (v := .int (nI 0)) (ty := .int) (C := RX5) (T := TX5) (N := 38) hx hb hts hiX5 tyX5 tyX5_ok nmX5 hown hK hP hD hS 0 rfl rfl 10 (by decide) k101 (fun _ h9 => h9) rfl (tyX5_ok 10 (by decide)) (rfl) (rfl) (Nat.le_of_ble_eq_true rfl) dX5_weave_95 (fun H locs hP hD hS => ?_)
              have hP : PP G (mw G h (oI (oI (oI w 12 (nI (sk tx nt (s1.1 12)))) 11 (nI nt)) 10 (nI 0)) lt sj) H := hP
              have hD : va_D A (mw G h (oI (oI (oI w 12 (nI (sk tx nt (s1.1 12)))) 11 (nI nt)) 10 (nI 0)) lt sj) := hD
              refine lv_iload_n hx hb dX5_weave_98 rfl (lv_at hl 0 rfl) ?_
              refine lv_if_le (tgt := 107) hx hb dX5_weave_99 (by decide) (fun c9 => absurd c9 (by decide)) (fun _ => ?_)
              refine lv_bipush (v := (-10 : Int32)) hx hb dX5_weave_102 (by decide) ?_
              refine lv_iload_n hx hb dX5_weave_104 rfl (lv_at hl 0 rfl) ?_
              refine lv_isub hx hb dX5_weave_105 ?_
              exact W.iret (v := (-10 : Int32) - (nI 1)) hx hb hr (fun t ht hW => ⟨⟨(-10 : Int32) - (nI 1), (oI (oI (oI w 12 (nI (sk tx nt (s1.1 12)))) 11 (nI nt)) 10 (nI 0), lt, sj), rfl, ⟨⟨(1, nt, s1), hEv _ (pEv_1 hend (by omega)), rfl, ⟨nv, nl, 0, nh, MIx_rd hI0 (by repeat (first | exact rel.refl _ | exact rel.mono (by assumption) (by decide) (by decide) | refine rel.I (by decide) ?_ | refine rel.A (by decide) ?_ | refine rel.trans ?_ (rel.mono (by assumption) (by decide) (by decide))))⟩, hWq.2 32 (by decide), hWq.2 33 (by decide), Or.inl ⟨(show ¬ (1 : Nat) = 0 by decide), rfl, rfl, (by repeat (first | exact rel.refl _ | exact rel.mono (by assumption) (by decide) (by decide) | refine rel.I (by decide) ?_ | refine rel.A (by decide) ?_ | refine rel.trans ?_ (rel.mono (by assumption) (by decide) (by decide))) : rel [10, 11, 12, 13, 14, 15, 19, 23] [16, 17, 18, 20, 21, 22, 24, 25] u _)⟩⟩, rfl⟩, show PP G (mw G h (oI (oI (oI w 12 (nI (sk tx nt (s1.1 12)))) 11 (nI nt)) 10 (nI 0)) lt sj) t.heap by rw [ht]; exact hP⟩, hS.F ht⟩) hS.2.2 dX5_weave_106
        · skip
          have hlt : sk tx nt (s1.1 12) < nt := hd_lt (fun q => c37 (by rw [q]; decide))
          refine lv_iload_n hx hb dX5_weave_40 rfl (lv_at hl 2 rfl) ?_
          refine lv_if_eq (tgt := 57) hx hb dX5_weave_41 (by decide) (fun c41 => ?_) (fun c41 => ?_)
          · skip
            refine lv_iconst (v := nI 0) hx hb dX5_weave_57 (by decide) ?_
            refine lv_istore_n (lv' := [(2, .int (nI 0)), (0, .ref (h 0)), (1, .int (nI f))]) hx hb dX5_weave_58 rfl hl (by decide) rfl (fun ls hl => ?_)
            refine lv_aload_n hx hb dX5_weave_59 rfl (lv_at hl 1 rfl) ?_
            refine lv_iload_n hx hb dX5_weave_60 rfl (lv_at hl 0 rfl) ?_
            have hZ : pZ tx nt (decide (¬ x = 0)) s1 = decide (¬ nI 0 = 0) := by unfold pZ; first | (rw [decide_eq_true c41, decide_eq_true c50]; rfl) | (rw [decide_eq_false (not_not_intro c41)]; rfl) | (rw [decide_eq_false c50, Bool.and_false]; rfl)
            refine cXi (As := [.int (nI 0)]) (rest := []) (S := oS × Int64 × (Nat → Int64)) (wa := mw G h (oI w 12 (nI (sk tx nt (s1.1 12)))) lt sj) (w1 := fun v => mw G h v.1 v.2.1 v.2.2) ⟨hx, hb, hml, hown, hts⟩ (mt_X5_takeItem l G h _ (oI w 12 (nI (sk tx nt (s1.1 12)))) lt sj nt tx (pN s1 12 (sk tx nt (s1.1 12))) (nI 0) (e10) (by first | assumption | omega) (⟨e10, rfl, e15, e19, e23, ⟨q240, (show sk tx nt (s1.1 12) ≤ nt by omega), qv, ql, (show s1.1 23 ≤ sk tx nt (s1.1 12) by omega), qpar⟩, hrw⟩) (htx_w) ((show sk tx nt (s1.1 12) < nt from hlt)) ((show sk tx nt (sk tx nt (s1.1 12)) = sk tx nt (s1.1 12) from sk_i _ _ _))) (cwV 1 hts gX5_weave_X5_takeItem rfl rfl rfl ⟨rfl, hd_X5_takeItem⟩ ⟨Nat.le_of_ble_eq_true rfl, Nat.le_of_ble_eq_true rfl⟩) hK hN hP hD hS hA (fun _ => rfl) 0 5 rfl rfl rfl hl.1 rfl (Nat.le_of_ble_eq_true rfl) ⟨Nat.zero_le _, Nat.zero_le _⟩ dX5_weave_61 (fun r61 u61 H locs hw61 hP hD hS => ?_)
            rcases hw61 with ⟨w61, s61, rfl, hR61, hQ61, hS61, ha61, e1161, rfl⟩ | ⟨w61, f61, p61, s61, rfl, hR61, hQ61, e1161, hf61, hg61, rfl⟩
            · skip
              have hP : PP G (mw G h w61 lt sj) H := hP
              have hD : va_D A (mw G h w61 lt sj) := hD
              have htx61 : w61.2 9 = tx := (hR61.2 9 (by decide)).trans (htx_w)
              have ha61 : sk tx nt (s1.1 12) < s61.1 12 := ha61
              have hP61 : pIt tx nt (decide (¬ x = 0)) s1 = (0, 0, s61) := by unfold pIt; rw [hZ]; exact hQ61
              refine lv_istore_n (lv' := [(1, .int (nI 0)), (2, .int (nI 0)), (0, .ref (h 0))]) hx hb dX5_weave_64 rfl hl (by decide) rfl (fun ls hl => ?_)
              refine lv_goto (tgt := 29) hx hb dX5_weave_65 (by decide) ?_
              exact ih29 0 (nI 0) w61 (mm - 1) (by repeat (first | exact rel.refl _ | exact rel.mono (by assumption) (by decide) (by decide) | refine rel.I (by decide) ?_ | refine rel.A (by decide) ?_ | refine rel.trans ?_ (rel.mono (by assumption) (by decide) (by decide)))) (htx61) (fun _ => ⟨s61, hS61, by omega, e1161.trans h11, fun res h => hEv res (pEv_s hlt hP61 (by rw [hZ]; exact h))⟩) (fun q => absurd rfl q) (by first | assumption | omega) (by omega) _ _ ls hP hD hS (lv_sub hl [2, 0, 1] rfl)
            · skip
              have hP : PP G (mw G h w61 lt sj) H := hP
              have hD : va_D A (mw G h w61 lt sj) := hD
              have htx61 : w61.2 9 = tx := (hR61.2 9 (by decide)).trans (htx_w)
              have hP61 : pIt tx nt (decide (¬ x = 0)) s1 = (f61, p61, s61) := by unfold pIt; rw [hZ]; exact hQ61
              refine lv_istore_n (lv' := [(1, .int (nI (f61))), (2, .int (nI 0)), (0, .ref (h 0))]) hx hb dX5_weave_64 rfl hl (by decide) rfl (fun ls hl => ?_)
              refine lv_goto (tgt := 29) hx hb dX5_weave_65 (by decide) ?_
              exact ih29 f61 (nI 0) w61 (mm - 1) (by repeat (first | exact rel.refl _ | exact rel.mono (by assumption) (by decide) (by decide) | refine rel.I (by decide) ?_ | refine rel.A (by decide) ?_ | refine rel.trans ?_ (rel.mono (by assumption) (by decide) (by decide)))) (htx61) (fun q => absurd q (by omega)) (fun _ => ⟨p61, s61, hEv _ (pEv_f hlt hP61 (by omega)), e1161⟩) (by first | assumption | omega) (by omega) _ _ ls hP hD hS (lv_sub hl [2, 0, 1] rfl)
          · skip
            refine lv_aload_n hx hb dX5_weave_44 rfl (lv_at hl 0 rfl) ?_
            refine cXi (As := []) (rest := []) (S := oS × Int64 × (Nat → Int64)) (wa := mw G h (oI w 12 (nI (sk tx nt (s1.1 12)))) lt sj) (w1 := fun v => mw G h v.1 v.2.1 v.2.2) ⟨hx, hb, hml, hown, hts⟩ (mt_X5_here l G h _ (oI w 12 (nI (sk tx nt (s1.1 12)))) lt sj nt (sk tx nt (s1.1 12)) tx (e10) (rfl) (by first | assumption | omega) (by first | assumption | omega) (htx_w)) (cwV 0 hts gX5_weave_X5_here rfl rfl rfl ⟨rfl, hd_X5_here⟩ ⟨Nat.le_of_ble_eq_true rfl, Nat.le_of_ble_eq_true rfl⟩) hK hN hP hD hS hA (fun _ => rfl) 0 5 rfl rfl rfl hl.1 rfl (Nat.le_of_ble_eq_true rfl) ⟨Nat.zero_le _, Nat.zero_le _⟩ dX5_weave_45 (fun r45 u45 H locs hw45 hP hD hS => ?_)
            obtain ⟨rfl, rfl⟩ := hw45
            have hP : PP G (mw G h (oI (oI w 12 (nI (sk tx nt (s1.1 12)))) 12 (nI (sk tx nt (sk tx nt (s1.1 12))))) lt sj) H := hP
            have hD : va_D A (mw G h (oI (oI w 12 (nI (sk tx nt (s1.1 12)))) 12 (nI (sk tx nt (sk tx nt (s1.1 12))))) lt sj) := hD
            have hge45 : (sk tx nt (s1.1 12)) ≤ sk tx nt (sk tx nt (s1.1 12)) := rn_ge _
            have hle45 : sk tx nt (sk tx nt (s1.1 12)) ≤ nt := rn_le (by omega)
            rw [sk_i] at hP hD ⊢
            refine lv_bipush (v := nI 118) hx hb dX5_weave_48 (by decide) ?_
            refine lv_icmp_ne (tgt := 57) hx hb dX5_weave_50 (by decide) (fun c50 => ?_) (fun c50 => ?_)
            · skip
              refine lv_iconst (v := nI 0) hx hb dX5_weave_57 (by decide) ?_
              refine lv_istore_n (lv' := [(2, .int (nI 0)), (0, .ref (h 0)), (1, .int (nI f))]) hx hb dX5_weave_58 rfl hl (by decide) rfl (fun ls hl => ?_)
              refine lv_aload_n hx hb dX5_weave_59 rfl (lv_at hl 1 rfl) ?_
              refine lv_iload_n hx hb dX5_weave_60 rfl (lv_at hl 0 rfl) ?_
              have hZ : pZ tx nt (decide (¬ x = 0)) s1 = decide (¬ nI 0 = 0) := by unfold pZ; first | (rw [decide_eq_true c41, decide_eq_true c50]; rfl) | (rw [decide_eq_false (not_not_intro c41)]; rfl) | (rw [decide_eq_false c50, Bool.and_false]; rfl)
              refine cXi (As := [.int (nI 0)]) (rest := []) (S := oS × Int64 × (Nat → Int64)) (wa := mw G h (oI (oI w 12 (nI (sk tx nt (s1.1 12)))) 12 (nI (sk tx nt (s1.1 12)))) lt sj) (w1 := fun v => mw G h v.1 v.2.1 v.2.2) ⟨hx, hb, hml, hown, hts⟩ (mt_X5_takeItem l G h _ (oI (oI w 12 (nI (sk tx nt (s1.1 12)))) 12 (nI (sk tx nt (s1.1 12)))) lt sj nt tx (pN s1 12 (sk tx nt (s1.1 12))) (nI 0) (e10) (by first | assumption | omega) (⟨e10, rfl, e15, e19, e23, ⟨q240, (show sk tx nt (s1.1 12) ≤ nt by omega), qv, ql, (show s1.1 23 ≤ sk tx nt (s1.1 12) by omega), qpar⟩, hrw⟩) (htx_w) ((show sk tx nt (s1.1 12) < nt from hlt)) ((show sk tx nt (sk tx nt (s1.1 12)) = sk tx nt (s1.1 12) from sk_i _ _ _))) (cwV 1 hts gX5_weave_X5_takeItem rfl rfl rfl ⟨rfl, hd_X5_takeItem⟩ ⟨Nat.le_of_ble_eq_true rfl, Nat.le_of_ble_eq_true rfl⟩) hK hN hP hD hS hA (fun _ => rfl) 0 5 rfl rfl rfl hl.1 rfl (Nat.le_of_ble_eq_true rfl) ⟨Nat.zero_le _, Nat.zero_le _⟩ dX5_weave_61 (fun r61 u61 H locs hw61 hP hD hS => ?_)
              rcases hw61 with ⟨w61, s61, rfl, hR61, hQ61, hS61, ha61, e1161, rfl⟩ | ⟨w61, f61, p61, s61, rfl, hR61, hQ61, e1161, hf61, hg61, rfl⟩
              · skip
                have hP : PP G (mw G h w61 lt sj) H := hP
                have hD : va_D A (mw G h w61 lt sj) := hD
                have htx61 : w61.2 9 = tx := (hR61.2 9 (by decide)).trans (htx_w)
                have ha61 : sk tx nt (s1.1 12) < s61.1 12 := ha61
                have hP61 : pIt tx nt (decide (¬ x = 0)) s1 = (0, 0, s61) := by unfold pIt; rw [hZ]; exact hQ61
                refine lv_istore_n (lv' := [(1, .int (nI 0)), (2, .int (nI 0)), (0, .ref (h 0))]) hx hb dX5_weave_64 rfl hl (by decide) rfl (fun ls hl => ?_)
                refine lv_goto (tgt := 29) hx hb dX5_weave_65 (by decide) ?_
                exact ih29 0 (nI 0) w61 (mm - 1) (by repeat (first | exact rel.refl _ | exact rel.mono (by assumption) (by decide) (by decide) | refine rel.I (by decide) ?_ | refine rel.A (by decide) ?_ | refine rel.trans ?_ (rel.mono (by assumption) (by decide) (by decide)))) (htx61) (fun _ => ⟨s61, hS61, by omega, e1161.trans h11, fun res h => hEv res (pEv_s hlt hP61 (by rw [hZ]; exact h))⟩) (fun q => absurd rfl q) (by first | assumption | omega) (by omega) _ _ ls hP hD hS (lv_sub hl [2, 0, 1] rfl)
              · skip
                have hP : PP G (mw G h w61 lt sj) H := hP
                have hD : va_D A (mw G h w61 lt sj) := hD
                have htx61 : w61.2 9 = tx := (hR61.2 9 (by decide)).trans (htx_w)
                have hP61 : pIt tx nt (decide (¬ x = 0)) s1 = (f61, p61, s61) := by unfold pIt; rw [hZ]; exact hQ61
                refine lv_istore_n (lv' := [(1, .int (nI (f61))), (2, .int (nI 0)), (0, .ref (h 0))]) hx hb dX5_weave_64 rfl hl (by decide) rfl (fun ls hl => ?_)
                refine lv_goto (tgt := 29) hx hb dX5_weave_65 (by decide) ?_
                exact ih29 f61 (nI 0) w61 (mm - 1) (by repeat (first | exact rel.refl _ | exact rel.mono (by assumption) (by decide) (by decide) | refine rel.I (by decide) ?_ | refine rel.A (by decide) ?_ | refine rel.trans ?_ (rel.mono (by assumption) (by decide) (by decide)))) (htx61) (fun q => absurd q (by omega)) (fun _ => ⟨p61, s61, hEv _ (pEv_f hlt hP61 (by omega)), e1161⟩) (by first | assumption | omega) (by omega) _ _ ls hP hD hS (lv_sub hl [2, 0, 1] rfl)
            · skip
              refine lv_iconst (v := nI 1) hx hb dX5_weave_53 (by decide) ?_
              refine lv_goto (tgt := 58) hx hb dX5_weave_54 (by decide) ?_
              refine lv_istore_n (lv' := [(2, .int (nI 1)), (0, .ref (h 0)), (1, .int (nI f))]) hx hb dX5_weave_58 rfl hl (by decide) rfl (fun ls hl => ?_)
              refine lv_aload_n hx hb dX5_weave_59 rfl (lv_at hl 1 rfl) ?_
              refine lv_iload_n hx hb dX5_weave_60 rfl (lv_at hl 0 rfl) ?_
              have hZ : pZ tx nt (decide (¬ x = 0)) s1 = decide (¬ nI 1 = 0) := by unfold pZ; first | (rw [decide_eq_true c41, decide_eq_true c50]; rfl) | (rw [decide_eq_false (not_not_intro c41)]; rfl) | (rw [decide_eq_false c50, Bool.and_false]; rfl)
              refine cXi (As := [.int (nI 1)]) (rest := []) (S := oS × Int64 × (Nat → Int64)) (wa := mw G h (oI (oI w 12 (nI (sk tx nt (s1.1 12)))) 12 (nI (sk tx nt (s1.1 12)))) lt sj) (w1 := fun v => mw G h v.1 v.2.1 v.2.2) ⟨hx, hb, hml, hown, hts⟩ (mt_X5_takeItem l G h _ (oI (oI w 12 (nI (sk tx nt (s1.1 12)))) 12 (nI (sk tx nt (s1.1 12)))) lt sj nt tx (pN s1 12 (sk tx nt (s1.1 12))) (nI 1) (e10) (by first | assumption | omega) (⟨e10, rfl, e15, e19, e23, ⟨q240, (show sk tx nt (s1.1 12) ≤ nt by omega), qv, ql, (show s1.1 23 ≤ sk tx nt (s1.1 12) by omega), qpar⟩, hrw⟩) (htx_w) ((show sk tx nt (s1.1 12) < nt from hlt)) ((show sk tx nt (sk tx nt (s1.1 12)) = sk tx nt (s1.1 12) from sk_i _ _ _))) (cwV 1 hts gX5_weave_X5_takeItem rfl rfl rfl ⟨rfl, hd_X5_takeItem⟩ ⟨Nat.le_of_ble_eq_true rfl, Nat.le_of_ble_eq_true rfl⟩) hK hN hP hD hS hA (fun _ => rfl) 0 5 rfl rfl rfl hl.1 rfl (Nat.le_of_ble_eq_true rfl) ⟨Nat.zero_le _, Nat.zero_le _⟩ dX5_weave_61 (fun r61 u61 H locs hw61 hP hD hS => ?_)
              rcases hw61 with ⟨w61, s61, rfl, hR61, hQ61, hS61, ha61, e1161, rfl⟩ | ⟨w61, f61, p61, s61, rfl, hR61, hQ61, e1161, hf61, hg61, rfl⟩
              · skip
                have hP : PP G (mw G h w61 lt sj) H := hP
                have hD : va_D A (mw G h w61 lt sj) := hD
                have htx61 : w61.2 9 = tx := (hR61.2 9 (by decide)).trans (htx_w)
                have ha61 : sk tx nt (s1.1 12) < s61.1 12 := ha61
                have hP61 : pIt tx nt (decide (¬ x = 0)) s1 = (0, 0, s61) := by unfold pIt; rw [hZ]; exact hQ61
                refine lv_istore_n (lv' := [(1, .int (nI 0)), (2, .int (nI 1)), (0, .ref (h 0))]) hx hb dX5_weave_64 rfl hl (by decide) rfl (fun ls hl => ?_)
                refine lv_goto (tgt := 29) hx hb dX5_weave_65 (by decide) ?_
                exact ih29 0 (nI 1) w61 (mm - 1) (by repeat (first | exact rel.refl _ | exact rel.mono (by assumption) (by decide) (by decide) | refine rel.I (by decide) ?_ | refine rel.A (by decide) ?_ | refine rel.trans ?_ (rel.mono (by assumption) (by decide) (by decide)))) (htx61) (fun _ => ⟨s61, hS61, by omega, e1161.trans h11, fun res h => hEv res (pEv_s hlt hP61 (by rw [hZ]; exact h))⟩) (fun q => absurd rfl q) (by first | assumption | omega) (by omega) _ _ ls hP hD hS (lv_sub hl [2, 0, 1] rfl)
              · skip
                have hP : PP G (mw G h w61 lt sj) H := hP
                have hD : va_D A (mw G h w61 lt sj) := hD
                have htx61 : w61.2 9 = tx := (hR61.2 9 (by decide)).trans (htx_w)
                have hP61 : pIt tx nt (decide (¬ x = 0)) s1 = (f61, p61, s61) := by unfold pIt; rw [hZ]; exact hQ61
                refine lv_istore_n (lv' := [(1, .int (nI (f61))), (2, .int (nI 1)), (0, .ref (h 0))]) hx hb dX5_weave_64 rfl hl (by decide) rfl (fun ls hl => ?_)
                refine lv_goto (tgt := 29) hx hb dX5_weave_65 (by decide) ?_
                exact ih29 f61 (nI 1) w61 (mm - 1) (by repeat (first | exact rel.refl _ | exact rel.mono (by assumption) (by decide) (by decide) | refine rel.I (by decide) ?_ | refine rel.A (by decide) ?_ | refine rel.trans ?_ (rel.mono (by assumption) (by decide) (by decide)))) (htx61) (fun q => absurd q (by omega)) (fun _ => ⟨p61, s61, hEv _ (pEv_f hlt hP61 (by omega)), e1161⟩) (by first | assumption | omega) (by omega) _ _ ls hP hD hS (lv_sub hl [2, 0, 1] rfl)
  exact LP29 ((nt + 1) + 1) 0 (nI 1) (oI (oI (oI (oI (oI u 11 (-1 : Int32)) 12 (nI 0)) 15 (nI 0)) 19 (nI 0)) 23 (nI 0)) (nt + 1) (by repeat (first | exact rel.refl _ | exact rel.mono (by assumption) (by decide) (by decide) | refine rel.I (by decide) ?_ | refine rel.A (by decide) ?_ | refine rel.trans ?_ (rel.mono (by assumption) (by decide) (by decide)))) (htx) (fun _ => ⟨s0, ⟨hnt, rfl, rfl, rfl, rfl, ⟨hnt240, Nat.zero_le _, Nat.zero_le _, Nat.zero_le _, Nat.zero_le _, fun i hi => absurd hi (Nat.not_lt_zero i)⟩, RwM_s0 _⟩, Nat.le_refl _, rfl, fun _ h => h⟩) (fun q => absurd rfl q) (by first | assumption | omega) (Nat.lt_succ_self _) _ _ ls hP hD hS (lv_sub hl [2, 1, 0] rfl)
