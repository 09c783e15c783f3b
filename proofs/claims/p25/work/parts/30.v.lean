/-! the class: a copy of a row, what a Weave's tests tell -/
section CPY
variable {p : Program} {l : Launch} {e : Env} {R : Room} {s : State} {m : MethodId} {args : Array Value} {below : List Frame} {meth : Method} {c : Code} {H : Heap} {locs : List Loc} {cells slots : Nat} {Q : State → Prop}
variable {cc : ByteArray} {pc : Nat} {ls : Array Slot} {rest : List Value} {G : gG} {A : Nat → Prop} {a : Nat} {ws : va_W} {H0 : Heap}
theorem cpyN (hx : p.tables.exec = Jvm.exec) (hb : c.code = cc) (hml : c.maxLocals = ls.size) {own : String} {index : Nat} (hown : s.vm.findClass own = some m.cls) (hlink : (Cond.methodLink own index arraycopyName).before args s = true) (hnat : (Cond.native arraycopyName).before args s = true) (hstat : (Cond.static arraycopyName).before args s = true) (hini : (Cond.initialized "java/lang/System").before args s = true)
    (hK : KK G s) (hP : PP G ws H) (hD : va_D A ws) (hS : va_S A H0 H locs) (q0 q1 : Nat) {a0 : Nat} {n0 n1 : Nat} {f g : Nat → Int32} (ha0 : ws[q0]? = some (a0, .inl (G.2.2 0, n0, .inl f))) (ha1 : ws[q1]? = some (a, .inl (G.2.2 0, n1, .inl g))) (hn0 : Nat.ble (n0 + 1) (2 ^ 31) = true) (hn1 : Nat.ble (n1 + 1) (2 ^ 31) = true) {sp dp n : Nat} (h4 : sp + n ≤ n0) (h5 : dp + n ≤ n1)
    (hframes : 1 ≤ R.frames) (hlocals : (rest.map fun v => v.category).sum + 18 ≤ R.locals) (hdg : decode cc pc = .ok (.invokestatic index, 3))
    (kk : ∀ (H1 : Heap) (locs1 : List Loc), PP G (ws.set q1 (a, .inl (G.2.2 0, n1, .inl (va_cpy f g sp dp n)))) H1 → va_D A (ws.set q1 (a, .inl (G.2.2 0, n1, .inl (va_cpy f g sp dp n)))) → va_S A H0 H1 locs1 → W p l e R s m args below meth c H1 locs1 cells slots Q (F0 m (pc + 3) ls rest)) : W p l e R s m args below meth c H locs cells slots Q (F0 m pc ls (.int (nI n) :: .int (nI dp) :: .ref a :: .int (nI sp) :: .ref a0 :: rest)) := by
  have b0 := Nat.le_of_ble_eq_true hn0
  have b1 := Nat.le_of_ble_eq_true hn1
  refine va_copyi hx hb hml hown hlink hnat hstat hini hK hP hD hS q0 q1 0 0 ha0 ha1 rfl rfl rfl (nI_pos (by omega)) (nI_pos (by omega)) (nI_pos (by omega)) (by rw [nI_clamp (by omega), nI_clamp (by omega)]; exact h4) (by rw [nI_clamp (by omega), nI_clamp (by omega)]; exact h5) (fun _ _ => rfl) hframes hlocals hdg ?_
  rw [nI_clamp (by omega), nI_clamp (by omega), nI_clamp (by omega)]
  exact kk
end CPY
theorem hv_y {x : Int32} {n : Nat} (hn : n ≤ 100000) (h0 : ¬ x < 0) (h1 : ¬ nI n ≤ x) : ∃ j, j < n ∧ x = nI j := by
  rw [Int32.lt_iff_toInt_lt] at h0
  rw [Int32.le_iff_toInt_le, nI_T hn] at h1
  have h0' : ¬ x.toInt < 0 := h0
  refine ⟨x.toInt.toNat, by omega, ?_⟩
  rw [← Int32.toInt_inj, nI_T (by omega)]
  omega
theorem hv_n1 {x : Int32} {n : Nat} (hn : n ≤ 100000) (h : x < 0) : ∀ j, j < n → x ≠ nI j := by
  rintro j hj rfl
  exact nI_pos (by omega) h
theorem hv_n2 {x : Int32} {n : Nat} (hn : n ≤ 100000) (h : nI n ≤ x) : ∀ j, j < n → x ≠ nI j := by
  rintro j hj rfl
  have := (nI_leI (a := n) (b := j) (by omega) (by omega)).mp h
  omega
theorem i64ne {x : Int32} (h : ¬ x ≤ 0) : ¬ x.toInt64 = 0 := by
  intro e
  apply h
  have := congrArg Int64.toInt e
  rw [Int32.toInt_toInt64] at this
  rw [Int32.le_iff_toInt_le]
  have h2 : (0 : Int64).toInt = 0 := rfl
  have h3 : (0 : Int32).toInt = 0 := rfl
  omega
theorem cnt_self {p : Nat → Bool} (n : Nat) : cnt (fun i => p i && p i) n = cnt p n := by
  have e : (fun i => p i && p i) = p := by funext i; exact Bool.and_self _
  rw [e]

set_option maxHeartbeats 1000000 in
set_option maxRecDepth 100000 in
theorem mt_X3_only (l : Launch) (x : Int32) : Met l yX3_only wsX3_only ({ frames := 0, cells := 0, slots := 0, locals := 0 }) (preS [.int x]) (vp_Si (fun r : Int32 => True)) 0 0 (fun _ => False) := by
  refine Met.ofW (cc := cX3_only) (maxL := 1) (ret := (some .int)) (by decide) rfl ?_
  intro p e s m args below meth c s₁ B hml hv
  obtain ⟨ha, -⟩ := hv
  subst ha
  have hx := B.exec
  have hb := B.bytes
  have hr := B.returns
  have hts := atoms_spec (ws := wsX3_only) B.pre
  have hown : s.vm.findClass RX3 = some m.cls := findClass_of_methodNamed B.named
  have hlocks := B.notSynchronized
  have hl := lv_entry ([.int x]) (n := 1) (Nat.le_of_ble_eq_true rfl)
  rw [lg_entry_eq]
  generalize (lg_sl ([.int x]) ++ List.replicate (1 - (lg_sl ([.int x])).length) Slot.unset).toArray = ls at hl ⊢
  have hl : lv_has ls 1 [(0, .int x)] := hl
  refine lv_iload_n hx hb dX3_only_0 rfl (lv_at hl 0 rfl) ?_
  refine lv_if_lt (tgt := 16) hx hb dX3_only_1 (by decide) (fun c1 => ?_) (fun c1 => ?_)
  · skip
    refine lv_iconst (v := nI 0) hx hb dX3_only_16 (by decide) ?_
    exact W.iret (v := nI 0) hx hb hr (fun t ht hW => ⟨nI 0, rfl, by first | rfl | trivial | omega | assumption, ht⟩) (fun _ h9 => by cases h9) dX3_only_17
  · skip
    refine lv_iload_n hx hb dX3_only_4 rfl (lv_at hl 0 rfl) ?_
    refine lv_bipush (v := nI 24) hx hb dX3_only_5 (by decide) ?_
    refine lv_icmp_ge (tgt := 16) hx hb dX3_only_7 (by decide) (fun c7 => ?_) (fun c7 => ?_)
    · skip
      refine lv_iconst (v := nI 0) hx hb dX3_only_16 (by decide) ?_
      exact W.iret (v := nI 0) hx hb hr (fun t ht hW => ⟨nI 0, rfl, by first | rfl | trivial | omega | assumption, ht⟩) (fun _ h9 => by cases h9) dX3_only_17
    · skip
      refine lv_iconst (v := nI 1) hx hb dX3_only_10 (by decide) ?_
      refine lv_iload_n hx hb dX3_only_11 rfl (lv_at hl 0 rfl) ?_
      refine lv_ishl hx hb dX3_only_12 ?_
      refine lv_goto (tgt := 17) hx hb dX3_only_13 (by decide) ?_
      exact W.iret (v := (nI 1) <<< (x &&& 31)) hx hb hr (fun t ht hW => ⟨(nI 1) <<< (x &&& 31), rfl, by first | rfl | trivial | omega | assumption, ht⟩) (fun _ h9 => by cases h9) dX3_only_17
set_option maxHeartbeats 1000000 in
set_option maxRecDepth 100000 in
theorem mt_X3_makeEmpty (l : Launch) (G : gG) (h : Nat → Nat) (sz : Nat) (w : oS) : Met l yX3_makeEmpty wsX3_makeEmpty ({ frames := 0, cells := 0, slots := 0, locals := 0 }) (preW G (wv G h w) sz [.ref (h 0)]) (va_Qv (fun (v : oS) => v = oI (oI w 0 (nI 0)) 5 (nI 0)) (fun v t => PP G (wv G h v) t.heap) (va_A (wv G h w) sz)) 0 0 (va_A (wv G h w) sz) := by
  refine Met.ofW (cc := cX3_makeEmpty) (maxL := 1) (ret := none) (by decide) rfl ?_
  intro p e s m args below meth c s₁ B hml hv
  obtain ⟨ha, hsz, hP, hK, hN, hD0⟩ := hv
  subst ha
  have hx := B.exec
  have hb := B.bytes
  have hr := B.returns
  have hts := atoms_spec (ws := wsX3_makeEmpty) B.pre
  have hown : s.vm.findClass RX3 = some m.cls := findClass_of_methodNamed B.named
  have hlocks := B.notSynchronized
  subst hsz
  have hD := hD0.self (sz := s.heap.size)
  generalize hAe : va_A (wv G h w) s.heap.size = A at hD ⊢
  have hA : ∀ q : Nat, s.heap.size ≤ q → A q := fun q h => by rw [← hAe]; exact Or.inr h
  clear hAe hD0
  have hS : va_S A s.heap s.heap [] := va_S.rf
  have hiX3 : ∀ w ∈ wsX30, w ∈ wsX3_makeEmpty := fun w h9 => List.mem_cons_of_mem _ (List.mem_append_right _ (h9))
  have k9 := hts (.fieldLink RX3 9 "WovenHistory$Weave" "versions" "I") (List.mem_of_getElem? (i := 1) rfl)
  have k28 := hts (.fieldLink RX3 28 "WovenHistory$Weave" "lines" "I") (List.mem_of_getElem? (i := 2) rfl)
  have hl := lv_entry ([.ref (h 0)]) (n := 1) (Nat.le_of_ble_eq_true rfl)
  rw [lg_entry_eq]
  generalize (lg_sl ([.ref (h 0)]) ++ List.replicate (1 - (lg_sl ([.ref (h 0)])).length) Slot.unset).toArray = ls at hl ⊢
  have hl : lv_has ls 1 [(0, .ref (h 0))] := hl
  refine lv_aload_n hx hb dX3_makeEmpty_0 rfl (lv_at hl 0 rfl) ?_
  refine lv_iconst (v := nI 0) hx hb dX3_makeEmpty_1 (by decide) ?_
  refine va_put (D := gD G) (ci := 3) (v := .int (nI 0)) (ty := .int) (C := RX3) (T := TX3) (N := 9) hx hb hts hiX3 tyX3 tyX3_ok nmX3 hown hK hP hD hS 0 rfl rfl 0 (by decide) k9 (fun _ h9 => h9) rfl (tyX3_ok 0 (by decide)) (rfl) (rfl) (Nat.le_of_ble_eq_true rfl) dX3_makeEmpty_2 (fun H locs hP hD hS => ?_)
  have hP : PP G (wv G h (oI w 0 (nI 0))) H := hP
  have hD : va_D A (wv G h (oI w 0 (nI 0))) := hD
  refine lv_aload_n hx hb dX3_makeEmpty_5 rfl (lv_at hl 0 rfl) ?_
  refine lv_iconst (v := nI 0) hx hb dX3_makeEmpty_6 (by decide) ?_
  refine va_put (D := gD G) (ci := 3) (v := .int (nI 0)) (ty := .int) (C := RX3) (T := TX3) (N := 9) hx hb hts hiX3 tyX3 tyX3_ok nmX3 hown hK hP hD hS 0 rfl rfl 5 (by decide) k28 (fun _ h9 => h9) rfl (tyX3_ok 5 (by decide)) (rfl) (rfl) (Nat.le_of_ble_eq_true rfl) dX3_makeEmpty_7 (fun H locs hP hD hS => ?_)
  have hP : PP G (wv G h (oI (oI w 0 (nI 0)) 5 (nI 0))) H := hP
  have hD : va_D A (wv G h (oI (oI w 0 (nI 0)) 5 (nI 0))) := hD
  exact W.vret hx hb hr (fun t ht hW => ⟨⟨(oI (oI w 0 (nI 0)) 5 (nI 0)), rfl, rfl, show PP G (wv G h (oI (oI w 0 (nI 0)) 5 (nI 0))) t.heap by rw [ht]; exact hP⟩, hS.F ht⟩) hS.2.2 dX3_makeEmpty_10
set_option maxHeartbeats 1000000 in
set_option maxRecDepth 100000 in
theorem mt_X3_hasVersion (l : Launch) (G : gG) (h : Nat → Nat) (w : oS) (nv : Nat) (x : Int32) (hnv : w.1 0 = nI nv) (hnv24 : nv ≤ 24) : Met l yX3_hasVersion wsX3_hasVersion ({ frames := 0, cells := 0, slots := 0, locals := 0 }) (preR G (wv G h w) [.ref (h 0), .int x]) (vp_Si (fun r : Int32 => (r = 1 ∧ ∃ j, j < nv ∧ x = nI j) ∨ (r = 0 ∧ ∀ j, j < nv → x ≠ nI j))) 0 0 (fun _ => False) := by
  refine Met.ofW (cc := cX3_hasVersion) (maxL := 2) (ret := (some .boolean)) (by decide) rfl ?_
  intro p e s m args below meth c s₁ B hml hv
  obtain ⟨ha, hP, hK, hN⟩ := hv
  subst ha
  have hx := B.exec
  have hb := B.bytes
  have hr := B.returns
  have hts := atoms_spec (ws := wsX3_hasVersion) B.pre
  have hown : s.vm.findClass RX3 = some m.cls := findClass_of_methodNamed B.named
  have hlocks := B.notSynchronized
  have hiX3 : ∀ w ∈ wsX30, w ∈ wsX3_hasVersion := fun w h9 => List.mem_cons_of_mem _ (List.mem_append_right _ (h9))
  have k9 := hts (.fieldLink RX3 9 "WovenHistory$Weave" "versions" "I") (List.mem_of_getElem? (i := 1) rfl)
  have hl := lv_entry ([.ref (h 0), .int x]) (n := 2) (Nat.le_of_ble_eq_true rfl)
  rw [lg_entry_eq]
  generalize (lg_sl ([.ref (h 0), .int x]) ++ List.replicate (2 - (lg_sl ([.ref (h 0), .int x])).length) Slot.unset).toArray = ls at hl ⊢
  have hl : lv_has ls 2 [(0, .ref (h 0)), (1, .int x)] := hl
  refine lv_iload_n hx hb dX3_hasVersion_0 rfl (lv_at hl 1 rfl) ?_
  refine lv_if_lt (tgt := 16) hx hb dX3_hasVersion_1 (by decide) (fun c1 => ?_) (fun c1 => ?_)
  · skip
    refine lv_iconst (v := nI 0) hx hb dX3_hasVersion_16 (by decide) ?_
    exact W.zret (v := nI 0) hx hb hr (by decide) (fun t ht hW => ⟨nI 0, rfl, by first | exact Or.inl ⟨rfl, hv_y (by omega) (by assumption) (by assumption)⟩ | exact Or.inr ⟨rfl, hv_n1 (by omega) (by assumption)⟩ | exact Or.inr ⟨rfl, hv_n2 (by omega) (by assumption)⟩, ht⟩) (fun _ h9 => by cases h9) dX3_hasVersion_17
  · skip
    refine lv_iload_n hx hb dX3_hasVersion_4 rfl (lv_at hl 1 rfl) ?_
    refine lv_aload_n hx hb dX3_hasVersion_5 rfl (lv_at hl 0 rfl) ?_
    refine va_get (D := gD G) (ci := 3) (v := .int (w.1 0)) (C := RX3) (T := TX3) (N := 9) hx hb hts hiX3 hown hK hP 0 rfl rfl 0 (by decide) k9 (fun _ h9 => h9) rfl dX3_hasVersion_6 ?_
    refine topE hnv ?_
    refine lv_icmp_ge (tgt := 16) hx hb dX3_hasVersion_9 (by decide) (fun c9 => ?_) (fun c9 => ?_)
    · skip
      refine lv_iconst (v := nI 0) hx hb dX3_hasVersion_16 (by decide) ?_
      exact W.zret (v := nI 0) hx hb hr (by decide) (fun t ht hW => ⟨nI 0, rfl, by first | exact Or.inl ⟨rfl, hv_y (by omega) (by assumption) (by assumption)⟩ | exact Or.inr ⟨rfl, hv_n1 (by omega) (by assumption)⟩ | exact Or.inr ⟨rfl, hv_n2 (by omega) (by assumption)⟩, ht⟩) (fun _ h9 => by cases h9) dX3_hasVersion_17
    · skip
      refine lv_iconst (v := nI 1) hx hb dX3_hasVersion_12 (by decide) ?_
      refine lv_goto (tgt := 17) hx hb dX3_hasVersion_13 (by decide) ?_
      exact W.zret (v := nI 1) hx hb hr (by decide) (fun t ht hW => ⟨nI 1, rfl, by first | exact Or.inl ⟨rfl, hv_y (by omega) (by assumption) (by assumption)⟩ | exact Or.inr ⟨rfl, hv_n1 (by omega) (by assumption)⟩ | exact Or.inr ⟨rfl, hv_n2 (by omega) (by assumption)⟩, ht⟩) (fun _ h9 => by cases h9) dX3_hasVersion_17
set_option maxHeartbeats 1000000 in
set_option maxRecDepth 100000 in
theorem mt_X3_hasLine (l : Launch) (G : gG) (h : Nat → Nat) (w : oS) (nl : Nat) (x : Int32) (hnl : w.1 5 = nI nl) (hnl120 : nl ≤ 120) : Met l yX3_hasLine wsX3_hasLine ({ frames := 0, cells := 0, slots := 0, locals := 0 }) (preR G (wv G h w) [.ref (h 0), .int x]) (vp_Si (fun r : Int32 => (r = 1 ∧ ∃ j, j < nl ∧ x = nI j) ∨ (r = 0 ∧ ∀ j, j < nl → x ≠ nI j))) 0 0 (fun _ => False) := by
  refine Met.ofW (cc := cX3_hasLine) (maxL := 2) (ret := (some .boolean)) (by decide) rfl ?_
  intro p e s m args below meth c s₁ B hml hv
  obtain ⟨ha, hP, hK, hN⟩ := hv
  subst ha
  have hx := B.exec
  have hb := B.bytes
  have hr := B.returns
  have hts := atoms_spec (ws := wsX3_hasLine) B.pre
  have hown : s.vm.findClass RX3 = some m.cls := findClass_of_methodNamed B.named
  have hlocks := B.notSynchronized
  have hiX3 : ∀ w ∈ wsX30, w ∈ wsX3_hasLine := fun w h9 => List.mem_cons_of_mem _ (List.mem_append_right _ (h9))
  have k28 := hts (.fieldLink RX3 28 "WovenHistory$Weave" "lines" "I") (List.mem_of_getElem? (i := 1) rfl)
  have hl := lv_entry ([.ref (h 0), .int x]) (n := 2) (Nat.le_of_ble_eq_true rfl)
  rw [lg_entry_eq]
  generalize (lg_sl ([.ref (h 0), .int x]) ++ List.replicate (2 - (lg_sl ([.ref (h 0), .int x])).length) Slot.unset).toArray = ls at hl ⊢
  have hl : lv_has ls 2 [(0, .ref (h 0)), (1, .int x)] := hl
  refine lv_iload_n hx hb dX3_hasLine_0 rfl (lv_at hl 1 rfl) ?_
  refine lv_if_lt (tgt := 16) hx hb dX3_hasLine_1 (by decide) (fun c1 => ?_) (fun c1 => ?_)
  · skip
    refine lv_iconst (v := nI 0) hx hb dX3_hasLine_16 (by decide) ?_
    exact W.zret (v := nI 0) hx hb hr (by decide) (fun t ht hW => ⟨nI 0, rfl, by first | exact Or.inl ⟨rfl, hv_y (by omega) (by assumption) (by assumption)⟩ | exact Or.inr ⟨rfl, hv_n1 (by omega) (by assumption)⟩ | exact Or.inr ⟨rfl, hv_n2 (by omega) (by assumption)⟩, ht⟩) (fun _ h9 => by cases h9) dX3_hasLine_17
  · skip
    refine lv_iload_n hx hb dX3_hasLine_4 rfl (lv_at hl 1 rfl) ?_
    refine lv_aload_n hx hb dX3_hasLine_5 rfl (lv_at hl 0 rfl) ?_
    refine va_get (D := gD G) (ci := 3) (v := .int (w.1 5)) (C := RX3) (T := TX3) (N := 9) hx hb hts hiX3 hown hK hP 0 rfl rfl 5 (by decide) k28 (fun _ h9 => h9) rfl dX3_hasLine_6 ?_
    refine topE hnl ?_
    refine lv_icmp_ge (tgt := 16) hx hb dX3_hasLine_9 (by decide) (fun c9 => ?_) (fun c9 => ?_)
    · skip
      refine lv_iconst (v := nI 0) hx hb dX3_hasLine_16 (by decide) ?_
      exact W.zret (v := nI 0) hx hb hr (by decide) (fun t ht hW => ⟨nI 0, rfl, by first | exact Or.inl ⟨rfl, hv_y (by omega) (by assumption) (by assumption)⟩ | exact Or.inr ⟨rfl, hv_n1 (by omega) (by assumption)⟩ | exact Or.inr ⟨rfl, hv_n2 (by omega) (by assumption)⟩, ht⟩) (fun _ h9 => by cases h9) dX3_hasLine_17
    · skip
      refine lv_iconst (v := nI 1) hx hb dX3_hasLine_12 (by decide) ?_
      refine lv_goto (tgt := 17) hx hb dX3_hasLine_13 (by decide) ?_
      exact W.zret (v := nI 1) hx hb hr (by decide) (fun t ht hW => ⟨nI 1, rfl, by first | exact Or.inl ⟨rfl, hv_y (by omega) (by assumption) (by assumption)⟩ | exact Or.inr ⟨rfl, hv_n1 (by omega) (by assumption)⟩ | exact Or.inr ⟨rfl, hv_n2 (by omega) (by assumption)⟩, ht⟩) (fun _ h9 => by cases h9) dX3_hasLine_17
set_option maxHeartbeats 1000000 in
set_option maxRecDepth 100000 in
theorem mt_X3_parentOf (l : Launch) (G : gG) (h : Nat → Nat) (w : oS) (x : Int32) : Met l yX3_parentOf wsX3_parentOf ({ frames := 0, cells := 0, slots := 0, locals := 0 }) (preR G (wv G h w) [.ref (h 0), .int x]) (vp_Si (fun r : Int32 => True)) 0 0 (fun _ => False) := by
  refine Met.ofW (cc := cX3_parentOf) (maxL := 2) (ret := (some .int)) (by decide) rfl ?_
  intro p e s m args below meth c s₁ B hml hv
  obtain ⟨ha, hP, hK, hN⟩ := hv
  subst ha
  have hx := B.exec
  have hb := B.bytes
  have hr := B.returns
  have hts := atoms_spec (ws := wsX3_parentOf) B.pre
  have hown : s.vm.findClass RX3 = some m.cls := findClass_of_methodNamed B.named
  have hlocks := B.notSynchronized
  have hiX3 : ∀ w ∈ wsX30, w ∈ wsX3_parentOf := fun w h9 => List.mem_cons_of_mem _ (List.mem_append_right _ (h9))
  have k15 := hts (.fieldLink RX3 15 "WovenHistory$Weave" "from" "[I") (List.mem_of_getElem? (i := 1) rfl)
  have hl := lv_entry ([.ref (h 0), .int x]) (n := 2) (Nat.le_of_ble_eq_true rfl)
  rw [lg_entry_eq]
  generalize (lg_sl ([.ref (h 0), .int x]) ++ List.replicate (2 - (lg_sl ([.ref (h 0), .int x])).length) Slot.unset).toArray = ls at hl ⊢
  have hl : lv_has ls 2 [(0, .ref (h 0)), (1, .int x)] := hl
  refine lv_iload_n hx hb dX3_parentOf_0 rfl (lv_at hl 1 rfl) ?_
  refine lv_if_lt (tgt := 19) hx hb dX3_parentOf_1 (by decide) (fun c1 => ?_) (fun c1 => ?_)
  · skip
    refine lv_iconst (v := (-1 : Int32)) hx hb dX3_parentOf_19 (by decide) ?_
    exact W.iret (v := (-1 : Int32)) hx hb hr (fun t ht hW => ⟨(-1 : Int32), rfl, by first | rfl | trivial | omega | assumption, ht⟩) (fun _ h9 => by cases h9) dX3_parentOf_20
  · skip
    refine lv_iload_n hx hb dX3_parentOf_4 rfl (lv_at hl 1 rfl) ?_
    refine lv_bipush (v := nI 24) hx hb dX3_parentOf_5 (by decide) ?_
    refine lv_icmp_ge (tgt := 19) hx hb dX3_parentOf_7 (by decide) (fun c7 => ?_) (fun c7 => ?_)
    · skip
      refine lv_iconst (v := (-1 : Int32)) hx hb dX3_parentOf_19 (by decide) ?_
      exact W.iret (v := (-1 : Int32)) hx hb hr (fun t ht hW => ⟨(-1 : Int32), rfl, by first | rfl | trivial | omega | assumption, ht⟩) (fun _ h9 => by cases h9) dX3_parentOf_20
    · skip
      obtain ⟨x1, hx1, rfl⟩ := hv_y (n := 24) (by omega) c1 c7
      refine lv_aload_n hx hb dX3_parentOf_10 rfl (lv_at hl 0 rfl) ?_
      refine va_get (D := gD G) (ci := 3) (v := .ref (h 1)) (C := RX3) (T := TX3) (N := 9) hx hb hts hiX3 hown hK hP 0 rfl rfl 1 (by decide) k15 (fun _ h9 => h9) rfl dX3_parentOf_11 ?_
      refine lv_iload_n hx hb dX3_parentOf_14 rfl (lv_at hl 1 rfl) ?_
      refine ialdN (f := w.2 1) (n := 24) (k := x1) hx hb hK hP 1 rfl rfl (by omega) dX3_parentOf_15 ?_
      refine lv_goto (tgt := 20) hx hb dX3_parentOf_16 (by decide) ?_
      exact W.iret (v := (w.2 1) x1) hx hb hr (fun t ht hW => ⟨(w.2 1) x1, rfl, by first | rfl | trivial | omega | assumption, ht⟩) (fun _ h9 => by cases h9) dX3_parentOf_20
set_option maxHeartbeats 1000000 in
set_option maxRecDepth 100000 in
theorem mt_X3_changesOf (l : Launch) (G : gG) (h : Nat → Nat) (w : oS) (x : Int32) : Met l yX3_changesOf wsX3_changesOf ({ frames := 0, cells := 0, slots := 0, locals := 0 }) (preR G (wv G h w) [.ref (h 0), .int x]) (vp_Si (fun r : Int32 => True)) 0 0 (fun _ => False) := by
  refine Met.ofW (cc := cX3_changesOf) (maxL := 2) (ret := (some .int)) (by decide) rfl ?_
  intro p e s m args below meth c s₁ B hml hv
  obtain ⟨ha, hP, hK, hN⟩ := hv
  subst ha
  have hx := B.exec
  have hb := B.bytes
  have hr := B.returns
  have hts := atoms_spec (ws := wsX3_changesOf) B.pre
  have hown : s.vm.findClass RX3 = some m.cls := findClass_of_methodNamed B.named
  have hlocks := B.notSynchronized
  have hiX3 : ∀ w ∈ wsX30, w ∈ wsX3_changesOf := fun w h9 => List.mem_cons_of_mem _ (List.mem_append_right _ (h9))
  have k25 := hts (.fieldLink RX3 25 "WovenHistory$Weave" "changes" "[I") (List.mem_of_getElem? (i := 1) rfl)
  have hl := lv_entry ([.ref (h 0), .int x]) (n := 2) (Nat.le_of_ble_eq_true rfl)
  rw [lg_entry_eq]
  generalize (lg_sl ([.ref (h 0), .int x]) ++ List.replicate (2 - (lg_sl ([.ref (h 0), .int x])).length) Slot.unset).toArray = ls at hl ⊢
  have hl : lv_has ls 2 [(0, .ref (h 0)), (1, .int x)] := hl
  refine lv_iload_n hx hb dX3_changesOf_0 rfl (lv_at hl 1 rfl) ?_
  refine lv_if_lt (tgt := 19) hx hb dX3_changesOf_1 (by decide) (fun c1 => ?_) (fun c1 => ?_)
  · skip
    refine lv_iconst (v := nI 0) hx hb dX3_changesOf_19 (by decide) ?_
    exact W.iret (v := nI 0) hx hb hr (fun t ht hW => ⟨nI 0, rfl, by first | rfl | trivial | omega | assumption, ht⟩) (fun _ h9 => by cases h9) dX3_changesOf_20
  · skip
    refine lv_iload_n hx hb dX3_changesOf_4 rfl (lv_at hl 1 rfl) ?_
    refine lv_bipush (v := nI 24) hx hb dX3_changesOf_5 (by decide) ?_
    refine lv_icmp_ge (tgt := 19) hx hb dX3_changesOf_7 (by decide) (fun c7 => ?_) (fun c7 => ?_)
    · skip
      refine lv_iconst (v := nI 0) hx hb dX3_changesOf_19 (by decide) ?_
      exact W.iret (v := nI 0) hx hb hr (fun t ht hW => ⟨nI 0, rfl, by first | rfl | trivial | omega | assumption, ht⟩) (fun _ h9 => by cases h9) dX3_changesOf_20
    · skip
      obtain ⟨x1, hx1, rfl⟩ := hv_y (n := 24) (by omega) c1 c7
      refine lv_aload_n hx hb dX3_changesOf_10 rfl (lv_at hl 0 rfl) ?_
      refine va_get (D := gD G) (ci := 3) (v := .ref (h 4)) (C := RX3) (T := TX3) (N := 9) hx hb hts hiX3 hown hK hP 0 rfl rfl 4 (by decide) k25 (fun _ h9 => h9) rfl dX3_changesOf_11 ?_
      refine lv_iload_n hx hb dX3_changesOf_14 rfl (lv_at hl 1 rfl) ?_
      refine ialdN (f := w.2 4) (n := 24) (k := x1) hx hb hK hP 4 rfl rfl (by omega) dX3_changesOf_15 ?_
      refine lv_goto (tgt := 20) hx hb dX3_changesOf_16 (by decide) ?_
      exact W.iret (v := (w.2 4) x1) hx hb hr (fun t ht hW => ⟨(w.2 4) x1, rfl, by first | rfl | trivial | omega | assumption, ht⟩) (fun _ h9 => by cases h9) dX3_changesOf_20
set_option maxHeartbeats 1000000 in
set_option maxRecDepth 100000 in
theorem mt_X3_stands (l : Launch) (G : gG) (h : Nat → Nat) (w : oS) (i : Nat) (cs : Int32) (hi : i < 120) : Met l yX3_stands wsX3_stands ({ frames := 0, cells := 0, slots := 0, locals := 0 }) (preR G (wv G h w) [.ref (h 0), .int (nI i), .int cs]) (vp_Si (fun r : Int32 => (r = 1 ∧ sdb (w.2 7) (w.2 8) cs i = true) ∨ (r = 0 ∧ sdb (w.2 7) (w.2 8) cs i = false))) 0 0 (fun _ => False) := by
  refine Met.ofW (cc := cX3_stands) (maxL := 3) (ret := (some .boolean)) (by decide) rfl ?_
  intro p e s m args below meth c s₁ B hml hv
  obtain ⟨ha, hP, hK, hN⟩ := hv
  subst ha
  have hx := B.exec
  have hb := B.bytes
  have hr := B.returns
  have hts := atoms_spec (ws := wsX3_stands) B.pre
  have hown : s.vm.findClass RX3 = some m.cls := findClass_of_methodNamed B.named
  have hlocks := B.notSynchronized
  have hiX3 : ∀ w ∈ wsX30, w ∈ wsX3_stands := fun w h9 => List.mem_cons_of_mem _ (List.mem_append_right _ (h9))
  have k34 := hts (.fieldLink RX3 34 "WovenHistory$Weave" "brought" "[I") (List.mem_of_getElem? (i := 1) rfl)
  have k37 := hts (.fieldLink RX3 37 "WovenHistory$Weave" "took" "[I") (List.mem_of_getElem? (i := 2) rfl)
  have hl := lv_entry ([.ref (h 0), .int (nI i), .int cs]) (n := 3) (Nat.le_of_ble_eq_true rfl)
  rw [lg_entry_eq]
  generalize (lg_sl ([.ref (h 0), .int (nI i), .int cs]) ++ List.replicate (3 - (lg_sl ([.ref (h 0), .int (nI i), .int cs])).length) Slot.unset).toArray = ls at hl ⊢
  have hl : lv_has ls 3 [(0, .ref (h 0)), (1, .int (nI i)), (2, .int cs)] := hl
  refine lv_iload_n hx hb dX3_stands_0 rfl (lv_at hl 2 rfl) ?_
  refine lv_aload_n hx hb dX3_stands_1 rfl (lv_at hl 0 rfl) ?_
  refine va_get (D := gD G) (ci := 3) (v := .ref (h 7)) (C := RX3) (T := TX3) (N := 9) hx hb hts hiX3 hown hK hP 0 rfl rfl 7 (by decide) k34 (fun _ h9 => h9) rfl dX3_stands_2 ?_
  refine lv_iload_n hx hb dX3_stands_5 rfl (lv_at hl 1 rfl) ?_
  refine ialdN (f := w.2 7) (n := 120) (k := i) hx hb hK hP 6 rfl rfl (by omega) dX3_stands_6 ?_
  refine lv_ishr hx hb dX3_stands_7 ?_
  refine lv_iconst (v := (1 : Int32)) hx hb dX3_stands_8 (by decide) ?_
  refine lv_iand hx hb dX3_stands_9 ?_
  refine lv_iconst (v := (1 : Int32)) hx hb dX3_stands_10 (by decide) ?_
  refine lv_icmp_ne (tgt := 29) hx hb dX3_stands_11 (by decide) (fun c11 => ?_) (fun c11 => ?_)
  · skip
    refine lv_iconst (v := nI 0) hx hb dX3_stands_29 (by decide) ?_
    exact W.zret (v := nI 0) hx hb hr (by decide) (fun t ht hW => ⟨nI 0, rfl, by first | exact Or.inl ⟨rfl, sdb_t (by assumption) (by assumption)⟩ | exact Or.inr ⟨rfl, sdb_f1 (by assumption)⟩ | exact Or.inr ⟨rfl, sdb_f2 (by assumption)⟩, ht⟩) (fun _ h9 => by cases h9) dX3_stands_30
  · skip
    refine lv_aload_n hx hb dX3_stands_14 rfl (lv_at hl 0 rfl) ?_
    refine va_get (D := gD G) (ci := 3) (v := .ref (h 8)) (C := RX3) (T := TX3) (N := 9) hx hb hts hiX3 hown hK hP 0 rfl rfl 8 (by decide) k37 (fun _ h9 => h9) rfl dX3_stands_15 ?_
    refine lv_iload_n hx hb dX3_stands_18 rfl (lv_at hl 1 rfl) ?_
    refine ialdN (f := w.2 8) (n := 120) (k := i) hx hb hK hP 7 rfl rfl (by omega) dX3_stands_19 ?_
    refine lv_iload_n hx hb dX3_stands_20 rfl (lv_at hl 2 rfl) ?_
    refine lv_iand hx hb dX3_stands_21 ?_
    refine lv_if_ne (tgt := 29) hx hb dX3_stands_22 (by decide) (fun c22 => ?_) (fun c22 => ?_)
    · skip
      refine lv_iconst (v := nI 0) hx hb dX3_stands_29 (by decide) ?_
      exact W.zret (v := nI 0) hx hb hr (by decide) (fun t ht hW => ⟨nI 0, rfl, by first | exact Or.inl ⟨rfl, sdb_t (by assumption) (by assumption)⟩ | exact Or.inr ⟨rfl, sdb_f1 (by assumption)⟩ | exact Or.inr ⟨rfl, sdb_f2 (by assumption)⟩, ht⟩) (fun _ h9 => by cases h9) dX3_stands_30
    · skip
      refine lv_iconst (v := nI 1) hx hb dX3_stands_25 (by decide) ?_
      refine lv_goto (tgt := 30) hx hb dX3_stands_26 (by decide) ?_
      exact W.zret (v := nI 1) hx hb hr (by decide) (fun t ht hW => ⟨nI 1, rfl, by first | exact Or.inl ⟨rfl, sdb_t (by assumption) (by assumption)⟩ | exact Or.inr ⟨rfl, sdb_f1 (by assumption)⟩ | exact Or.inr ⟨rfl, sdb_f2 (by assumption)⟩, ht⟩) (fun _ h9 => by cases h9) dX3_stands_30
set_option maxHeartbeats 1000000 in
set_option maxRecDepth 100000 in
theorem mt_X3_countInBoth (l : Launch) (G : gG) (h : Nat → Nat) (w : oS) (nl : Nat) (a : Int32) (b : Int32) (hnl : w.1 5 = nI nl) (hnl120 : nl ≤ 120) : Met l yX3_countInBoth wsX3_countInBoth ({ frames := 1, cells := 0, slots := 0, locals := 22 }) (preR G (wv G h w) [.ref (h 0), .int a, .int b]) (vp_Si (fun r : Int32 => r = nI (cnt (fun i => sdb (w.2 7) (w.2 8) a i && sdb (w.2 7) (w.2 8) b i) nl))) 0 0 (fun _ => False) := by
  refine Met.ofW (cc := cX3_countInBoth) (maxL := 5) (ret := (some .int)) (by decide) rfl ?_
  intro p e s m args below meth c s₁ B hml hv
  obtain ⟨ha, hP, hK, hN⟩ := hv
  subst ha
  have hx := B.exec
  have hb := B.bytes
  have hr := B.returns
  have hts := atoms_spec (ws := wsX3_countInBoth) B.pre
  have hown : s.vm.findClass RX3 = some m.cls := findClass_of_methodNamed B.named
  have hlocks := B.notSynchronized
  have hiX3 : ∀ w ∈ wsX30, w ∈ wsX3_countInBoth := fun w h9 => List.mem_cons_of_mem _ (List.mem_append_right _ (h9))
  have k28 := hts (.fieldLink RX3 28 "WovenHistory$Weave" "lines" "I") (List.mem_of_getElem? (i := 1) rfl)
  have hl := lv_entry ([.ref (h 0), .int a, .int b]) (n := 5) (Nat.le_of_ble_eq_true rfl)
  rw [lg_entry_eq]
  generalize (lg_sl ([.ref (h 0), .int a, .int b]) ++ List.replicate (5 - (lg_sl ([.ref (h 0), .int a, .int b])).length) Slot.unset).toArray = ls at hl ⊢
  have hl : lv_has ls 5 [(0, .ref (h 0)), (1, .int a), (2, .int b)] := hl
  refine lv_iconst (v := nI 0) hx hb dX3_countInBoth_0 (by decide) ?_
  refine lv_istore_n (lv' := [(3, .int (nI 0)), (0, .ref (h 0)), (1, .int a), (2, .int b)]) hx hb dX3_countInBoth_1 rfl hl (by decide) rfl (fun ls hl => ?_)
  refine lv_iconst (v := nI 0) hx hb dX3_countInBoth_2 (by decide) ?_
  refine lv_istore (lv' := [(4, .int (nI 0)), (3, .int (nI 0)), (0, .ref (h 0)), (1, .int a), (2, .int b)]) hx hb dX3_countInBoth_3 hl (by decide) rfl (fun ls hl => ?_)
  have LP5 : ∀ (n5m : Nat), ∀ (k : Nat) (j : Nat) (hk : k ≤ nl) (hj : j = cnt (fun i => sdb (w.2 7) (w.2 8) a i && sdb (w.2 7) (w.2 8) b i) k), (nl - k < n5m) → ∀ (ls : Array Slot), lv_has ls 5 [(0, .ref (h 0)), (1, .int a), (2, .int b), (3, .int (nI j)), (4, .int (nI k))] → W p l e (headSpec wsX3_countInBoth ({ frames := 1, cells := 0, slots := 0, locals := 22 })).room s m ([.ref (h 0), .int a, .int b] : List Value).toArray below meth c s.heap [] 0 0 (MQ below (vp_Si (fun r : Int32 => r = nI (cnt (fun i => sdb (w.2 7) (w.2 8) a i && sdb (w.2 7) (w.2 8) b i) nl))) ([.ref (h 0), .int a, .int b] : List Value).toArray s 0 0 (fun _ => False)) (F0 m 5 ls []) := by
    intro n5m
    induction n5m with
    | zero => intro k j hk hj hmu ls hl; exact absurd hmu (Nat.not_lt_zero _)
    | succ n5m ih5 =>
      intro k j hk hj hmu ls hl
      refine lv_iload hx hb dX3_countInBoth_5 (lv_at hl 4 rfl) ?_
      refine lv_aload_n hx hb dX3_countInBoth_7 rfl (lv_at hl 0 rfl) ?_
      refine va_get (D := gD G) (ci := 3) (v := .int (w.1 5)) (C := RX3) (T := TX3) (N := 9) hx hb hts hiX3 hown hK hP 0 rfl rfl 5 (by decide) k28 (fun _ h9 => h9) rfl dX3_countInBoth_8 ?_
      refine topE hnl ?_
      refine lv_icmp_ge (tgt := 43) hx hb dX3_countInBoth_11 (by decide) (fun c11 => ?_) (fun c11 => ?_)
      · skip
        have n11 : nl ≤ k := (nI_leI (a := nl) (b := k) (by omega) (by omega)).mp c11
        refine lv_iload_n hx hb dX3_countInBoth_43 rfl (lv_at hl 3 rfl) ?_
        exact W.iret (v := nI j) hx hb hr (fun t ht hW => ⟨nI j, rfl, by rw [hj, show k = nl by omega], ht⟩) (fun _ h9 => by cases h9) dX3_countInBoth_44
      · skip
        have n11 : ¬ (nl ≤ k) := fun q9 => c11 ((nI_leI (a := nl) (b := k) (by omega) (by omega)).mpr q9)
        refine lv_aload_n hx hb dX3_countInBoth_14 rfl (lv_at hl 0 rfl) ?_
        refine lv_iload hx hb dX3_countInBoth_15 (lv_at hl 4 rfl) ?_
        refine lv_iload_n hx hb dX3_countInBoth_17 rfl (lv_at hl 1 rfl) ?_
        refine cRi (w := wv G h w) (As := [.int (nI k), .int a]) (rest := []) ⟨hx, hb, hml, hown, hts⟩ (mt_X3_stands l G h w k a (by first | assumption | omega)) (cwV 2 hts gX3_countInBoth_X3_stands rfl rfl rfl ⟨rfl, hd_X3_stands⟩ ⟨Nat.le_of_ble_eq_true rfl, Nat.le_of_ble_eq_true rfl⟩) hK hN hP 0 3 rfl rfl rfl hl.1 rfl (Nat.le_of_ble_eq_true rfl) ⟨Nat.zero_le _, Nat.zero_le _⟩ dX3_countInBoth_18 (fun r18 hw18 => ?_)
        rcases hw18 with ⟨rfl, hy18⟩ | ⟨rfl, hn18⟩
        · skip
          refine lv_if_eq (tgt := 37) hx hb dX3_countInBoth_21 (by decide) (fun c9 => absurd c9 (by decide)) (fun _ => ?_)
          refine lv_aload_n hx hb dX3_countInBoth_24 rfl (lv_at hl 0 rfl) ?_
          refine lv_iload hx hb dX3_countInBoth_25 (lv_at hl 4 rfl) ?_
          refine lv_iload_n hx hb dX3_countInBoth_27 rfl (lv_at hl 2 rfl) ?_
          refine cRi (w := wv G h w) (As := [.int (nI k), .int b]) (rest := []) ⟨hx, hb, hml, hown, hts⟩ (mt_X3_stands l G h w k b (by first | assumption | omega)) (cwV 2 hts gX3_countInBoth_X3_stands rfl rfl rfl ⟨rfl, hd_X3_stands⟩ ⟨Nat.le_of_ble_eq_true rfl, Nat.le_of_ble_eq_true rfl⟩) hK hN hP 0 3 rfl rfl rfl hl.1 rfl (Nat.le_of_ble_eq_true rfl) ⟨Nat.zero_le _, Nat.zero_le _⟩ dX3_countInBoth_28 (fun r28 hw28 => ?_)
          rcases hw28 with ⟨rfl, hy28⟩ | ⟨rfl, hn28⟩
          · skip
            refine lv_if_eq (tgt := 37) hx hb dX3_countInBoth_31 (by decide) (fun c9 => absurd c9 (by decide)) (fun _ => ?_)
            refine lv_iinc (v := nI (j + 1)) (lv' := [(3, .int (nI (j + 1))), (0, .ref (h 0)), (1, .int a), (2, .int b), (4, .int (nI k))]) hx hb dX3_countInBoth_34 hl (k := 3) rfl (nI_1 j) (by decide) rfl (fun ls hl => ?_)
            refine lv_iinc (v := nI (k + 1)) (lv' := [(4, .int (nI (k + 1))), (3, .int (nI (j + 1))), (0, .ref (h 0)), (1, .int a), (2, .int b)]) hx hb dX3_countInBoth_37 hl (k := 4) rfl (nI_1 k) (by decide) rfl (fun ls hl => ?_)
            refine lv_goto (tgt := 5) hx hb dX3_countInBoth_40 (by decide) ?_
            exact ih5 (k + 1) (j + 1) (by first | assumption | omega) (by first | rfl | omega | (rw [cnt_t (by simp only [*, Bool.and_self])]; omega) | (rw [cnt_f (by simp only [*, Bool.and_false, Bool.false_and])]; omega)) (by omega) ls (lv_sub hl [2, 3, 4, 1, 0] rfl)
          · skip
            refine lv_if_eq (tgt := 37) hx hb dX3_countInBoth_31 (by decide) (fun _ => ?_) (fun c9 => absurd (by decide) c9)
            refine lv_iinc (v := nI (k + 1)) (lv' := [(4, .int (nI (k + 1))), (0, .ref (h 0)), (1, .int a), (2, .int b), (3, .int (nI j))]) hx hb dX3_countInBoth_37 hl (k := 4) rfl (nI_1 k) (by decide) rfl (fun ls hl => ?_)
            refine lv_goto (tgt := 5) hx hb dX3_countInBoth_40 (by decide) ?_
            exact ih5 (k + 1) j (by first | assumption | omega) (by first | rfl | omega | (rw [cnt_t (by simp only [*, Bool.and_self])]; omega) | (rw [cnt_f (by simp only [*, Bool.and_false, Bool.false_and])]; omega)) (by omega) ls (lv_sub hl [1, 2, 3, 4, 0] rfl)
        · skip
          refine lv_if_eq (tgt := 37) hx hb dX3_countInBoth_21 (by decide) (fun _ => ?_) (fun c9 => absurd (by decide) c9)
          refine lv_iinc (v := nI (k + 1)) (lv' := [(4, .int (nI (k + 1))), (0, .ref (h 0)), (1, .int a), (2, .int b), (3, .int (nI j))]) hx hb dX3_countInBoth_37 hl (k := 4) rfl (nI_1 k) (by decide) rfl (fun ls hl => ?_)
          refine lv_goto (tgt := 5) hx hb dX3_countInBoth_40 (by decide) ?_
          exact ih5 (k + 1) j (by first | assumption | omega) (by first | rfl | omega | (rw [cnt_t (by simp only [*, Bool.and_self])]; omega) | (rw [cnt_f (by simp only [*, Bool.and_false, Bool.false_and])]; omega)) (by omega) ls (lv_sub hl [1, 2, 3, 4, 0] rfl)
  exact LP5 (nl - 0 + 1) 0 0 (by first | assumption | omega) (by first | rfl | omega | (rw [cnt_t (by simp only [*, Bool.and_self])]; omega) | (rw [cnt_f (by simp only [*, Bool.and_false, Bool.false_and])]; omega)) (Nat.lt_succ_self _) ls (lv_sub hl [2, 3, 4, 1, 0] rfl)
set_option maxHeartbeats 1000000 in
set_option maxRecDepth 100000 in
theorem mt_X3_countStanding (l : Launch) (G : gG) (h : Nat → Nat) (w : oS) (nl : Nat) (a : Int32) (hnl : w.1 5 = nI nl) (hnl120 : nl ≤ 120) : Met l yX3_countStanding wsX3_countStanding ({ frames := 2, cells := 0, slots := 0, locals := 46 }) (preR G (wv G h w) [.ref (h 0), .int a]) (vp_Si (fun r : Int32 => r = nI (cnt (sdb (w.2 7) (w.2 8) a) nl))) 0 0 (fun _ => False) := by
  refine Met.ofW (cc := cX3_countStanding) (maxL := 2) (ret := (some .int)) (by decide) rfl ?_
  intro p e s m args below meth c s₁ B hml hv
  obtain ⟨ha, hP, hK, hN⟩ := hv
  subst ha
  have hx := B.exec
  have hb := B.bytes
  have hr := B.returns
  have hts := atoms_spec (ws := wsX3_countStanding) B.pre
  have hown : s.vm.findClass RX3 = some m.cls := findClass_of_methodNamed B.named
  have hlocks := B.notSynchronized
  have hl := lv_entry ([.ref (h 0), .int a]) (n := 2) (Nat.le_of_ble_eq_true rfl)
  rw [lg_entry_eq]
  generalize (lg_sl ([.ref (h 0), .int a]) ++ List.replicate (2 - (lg_sl ([.ref (h 0), .int a])).length) Slot.unset).toArray = ls at hl ⊢
  have hl : lv_has ls 2 [(0, .ref (h 0)), (1, .int a)] := hl
  refine lv_aload_n hx hb dX3_countStanding_0 rfl (lv_at hl 0 rfl) ?_
  refine lv_iload_n hx hb dX3_countStanding_1 rfl (lv_at hl 1 rfl) ?_
  refine lv_iload_n hx hb dX3_countStanding_2 rfl (lv_at hl 1 rfl) ?_
  refine cRi (w := wv G h w) (As := [.int a, .int a]) (rest := []) ⟨hx, hb, hml, hown, hts⟩ (mt_X3_countInBoth l G h w nl a a (hnl) (by first | assumption | omega)) (cwV 2 hts gX3_countStanding_X3_countInBoth rfl rfl rfl ⟨rfl, hd_X3_countInBoth⟩ ⟨Nat.le_of_ble_eq_true rfl, Nat.le_of_ble_eq_true rfl⟩) hK hN hP 0 3 rfl rfl rfl hl.1 rfl (Nat.le_of_ble_eq_true rfl) ⟨Nat.zero_le _, Nat.zero_le _⟩ dX3_countStanding_3 (fun r3 hw3 => ?_)
  obtain rfl := hw3
  exact W.iret (v := nI (cnt (fun i => sdb (w.2 7) (w.2 8) a i && sdb (w.2 7) (w.2 8) a i) nl)) hx hb hr (fun t ht hW => ⟨nI (cnt (fun i => sdb (w.2 7) (w.2 8) a i && sdb (w.2 7) (w.2 8) a i) nl), rfl, by rw [cnt_self], ht⟩) (fun _ h9 => by cases h9) dX3_countStanding_6
set_option maxHeartbeats 1000000 in
set_option maxRecDepth 100000 in
theorem mt_X3_lifeOf (l : Launch) (G : gG) (h : Nat → Nat) (w : oS) (nv : Nat) (i : Nat) (hnv : w.1 0 = nI nv) (hnv24 : nv ≤ 24) (hi : i < 120) : Met l yX3_lifeOf wsX3_lifeOf ({ frames := 1, cells := 0, slots := 0, locals := 22 }) (preR G (wv G h w) [.ref (h 0), .int (nI i)]) (vp_Si (fun r : Int32 => True)) 0 0 (fun _ => False) := by
  refine Met.ofW (cc := cX3_lifeOf) (maxL := 4) (ret := (some .int)) (by decide) rfl ?_
  intro p e s m args below meth c s₁ B hml hv
  obtain ⟨ha, hP, hK, hN⟩ := hv
  subst ha
  have hx := B.exec
  have hb := B.bytes
  have hr := B.returns
  have hts := atoms_spec (ws := wsX3_lifeOf) B.pre
  have hown : s.vm.findClass RX3 = some m.cls := findClass_of_methodNamed B.named
  have hlocks := B.notSynchronized
  have hiX3 : ∀ w ∈ wsX30, w ∈ wsX3_lifeOf := fun w h9 => List.mem_cons_of_mem _ (List.mem_append_right _ (h9))
  have k9 := hts (.fieldLink RX3 9 "WovenHistory$Weave" "versions" "I") (List.mem_of_getElem? (i := 1) rfl)
  have k25 := hts (.fieldLink RX3 25 "WovenHistory$Weave" "changes" "[I") (List.mem_of_getElem? (i := 2) rfl)
  have hl := lv_entry ([.ref (h 0), .int (nI i)]) (n := 4) (Nat.le_of_ble_eq_true rfl)
  rw [lg_entry_eq]
  generalize (lg_sl ([.ref (h 0), .int (nI i)]) ++ List.replicate (4 - (lg_sl ([.ref (h 0), .int (nI i)])).length) Slot.unset).toArray = ls at hl ⊢
  have hl : lv_has ls 4 [(0, .ref (h 0)), (1, .int (nI i))] := hl
  refine lv_iconst (v := nI 0) hx hb dX3_lifeOf_0 (by decide) ?_
  refine lv_istore_n (lv' := [(2, .int (nI 0)), (0, .ref (h 0)), (1, .int (nI i))]) hx hb dX3_lifeOf_1 rfl hl (by decide) rfl (fun ls hl => ?_)
  refine lv_iconst (v := nI 0) hx hb dX3_lifeOf_2 (by decide) ?_
  refine lv_istore_n (lv' := [(3, .int (nI 0)), (2, .int (nI 0)), (0, .ref (h 0)), (1, .int (nI i))]) hx hb dX3_lifeOf_3 rfl hl (by decide) rfl (fun ls hl => ?_)
  have LP4 : ∀ (n4m : Nat), ∀ (k : Nat) (y : Int32) (hk : k ≤ nv), (nv - k < n4m) → ∀ (ls : Array Slot), lv_has ls 4 [(0, .ref (h 0)), (1, .int (nI i)), (2, .int y), (3, .int (nI k))] → W p l e (headSpec wsX3_lifeOf ({ frames := 1, cells := 0, slots := 0, locals := 22 })).room s m ([.ref (h 0), .int (nI i)] : List Value).toArray below meth c s.heap [] 0 0 (MQ below (vp_Si (fun r : Int32 => True)) ([.ref (h 0), .int (nI i)] : List Value).toArray s 0 0 (fun _ => False)) (F0 m 4 ls []) := by
    intro n4m
    induction n4m with
    | zero => intro k y hk hmu ls hl; exact absurd hmu (Nat.not_lt_zero _)
    | succ n4m ih4 =>
      intro k y hk hmu ls hl
      refine lv_iload_n hx hb dX3_lifeOf_4 rfl (lv_at hl 3 rfl) ?_
      refine lv_aload_n hx hb dX3_lifeOf_5 rfl (lv_at hl 0 rfl) ?_
      refine va_get (D := gD G) (ci := 3) (v := .int (w.1 0)) (C := RX3) (T := TX3) (N := 9) hx hb hts hiX3 hown hK hP 0 rfl rfl 0 (by decide) k9 (fun _ h9 => h9) rfl dX3_lifeOf_6 ?_
      refine topE hnv ?_
      refine lv_icmp_ge (tgt := 39) hx hb dX3_lifeOf_9 (by decide) (fun c9 => ?_) (fun c9 => ?_)
      · skip
        have n9 : nv ≤ k := (nI_leI (a := nv) (b := k) (by omega) (by omega)).mp c9
        refine lv_iload_n hx hb dX3_lifeOf_39 rfl (lv_at hl 2 rfl) ?_
        exact W.iret (v := y) hx hb hr (fun t ht hW => ⟨y, rfl, by first | rfl | trivial | omega | assumption, ht⟩) (fun _ h9 => by cases h9) dX3_lifeOf_40
      · skip
        have n9 : ¬ (nv ≤ k) := fun q9 => c9 ((nI_leI (a := nv) (b := k) (by omega) (by omega)).mpr q9)
        refine lv_aload_n hx hb dX3_lifeOf_12 rfl (lv_at hl 0 rfl) ?_
        refine lv_iload_n hx hb dX3_lifeOf_13 rfl (lv_at hl 1 rfl) ?_
        refine lv_aload_n hx hb dX3_lifeOf_14 rfl (lv_at hl 0 rfl) ?_
        refine va_get (D := gD G) (ci := 3) (v := .ref (h 4)) (C := RX3) (T := TX3) (N := 9) hx hb hts hiX3 hown hK hP 0 rfl rfl 4 (by decide) k25 (fun _ h9 => h9) rfl dX3_lifeOf_15 ?_
        refine lv_iload_n hx hb dX3_lifeOf_18 rfl (lv_at hl 3 rfl) ?_
        refine ialdN (f := w.2 4) (n := 24) (k := k) hx hb hK hP 4 rfl rfl (by omega) dX3_lifeOf_19 ?_
        refine cRi (w := wv G h w) (As := [.int (nI i), .int ((w.2 4) k)]) (rest := []) ⟨hx, hb, hml, hown, hts⟩ (mt_X3_stands l G h w i ((w.2 4) k) (by first | assumption | omega)) (cwV 2 hts gX3_lifeOf_X3_stands rfl rfl rfl ⟨rfl, hd_X3_stands⟩ ⟨Nat.le_of_ble_eq_true rfl, Nat.le_of_ble_eq_true rfl⟩) hK hN hP 0 3 rfl rfl rfl hl.1 rfl (Nat.le_of_ble_eq_true rfl) ⟨Nat.zero_le _, Nat.zero_le _⟩ dX3_lifeOf_20 (fun r20 hw20 => ?_)
        rcases hw20 with ⟨rfl, hy20⟩ | ⟨rfl, hn20⟩
        · skip
          refine lv_if_eq (tgt := 33) hx hb dX3_lifeOf_23 (by decide) (fun c9 => absurd c9 (by decide)) (fun _ => ?_)
          refine lv_iload_n hx hb dX3_lifeOf_26 rfl (lv_at hl 2 rfl) ?_
          refine lv_iload_n hx hb dX3_lifeOf_27 rfl (lv_at hl 3 rfl) ?_
          refine cSi (As := [.int (nI k)]) (rest := [.int y]) ⟨hx, hb, hml, hown, hts⟩ (mt_X3_only l (nI k)) (va_cwS 1 hts gX3_lifeOf_X3_only rfl rfl rfl hd_X3_only ⟨Nat.le_of_ble_eq_true rfl, Nat.le_of_ble_eq_true rfl⟩) rfl hl.1 rfl (Nat.le_of_ble_eq_true rfl) ⟨Nat.zero_le _, Nat.zero_le _⟩ dX3_lifeOf_28 (fun r28 hw28 => ?_)
          refine lv_ior hx hb dX3_lifeOf_31 ?_
          refine lv_istore_n (lv' := [(2, .int (y ||| r28)), (0, .ref (h 0)), (1, .int (nI i)), (3, .int (nI k))]) hx hb dX3_lifeOf_32 rfl hl (by decide) rfl (fun ls hl => ?_)
          refine lv_iinc (v := nI (k + 1)) (lv' := [(3, .int (nI (k + 1))), (2, .int (y ||| r28)), (0, .ref (h 0)), (1, .int (nI i))]) hx hb dX3_lifeOf_33 hl (k := 3) rfl (nI_1 k) (by decide) rfl (fun ls hl => ?_)
          refine lv_goto (tgt := 4) hx hb dX3_lifeOf_36 (by decide) ?_
          exact ih4 (k + 1) (y ||| r28) (by first | assumption | omega) (by omega) ls (lv_sub hl [2, 3, 1, 0] rfl)
        · skip
          refine lv_if_eq (tgt := 33) hx hb dX3_lifeOf_23 (by decide) (fun _ => ?_) (fun c9 => absurd (by decide) c9)
          refine lv_iinc (v := nI (k + 1)) (lv' := [(3, .int (nI (k + 1))), (0, .ref (h 0)), (1, .int (nI i)), (2, .int y)]) hx hb dX3_lifeOf_33 hl (k := 3) rfl (nI_1 k) (by decide) rfl (fun ls hl => ?_)
          refine lv_goto (tgt := 4) hx hb dX3_lifeOf_36 (by decide) ?_
          exact ih4 (k + 1) y (by first | assumption | omega) (by omega) ls (lv_sub hl [1, 2, 3, 0] rfl)
  exact LP4 (nv - 0 + 1) 0 (nI 0) (by first | assumption | omega) (Nat.lt_succ_self _) ls (lv_sub hl [2, 3, 1, 0] rfl)
set_option maxHeartbeats 1000000 in
set_option maxRecDepth 100000 in
theorem mt_X3_countGone (l : Launch) (G : gG) (h : Nat → Nat) (w : oS) (nv : Nat) (nl : Nat) (hnv : w.1 0 = nI nv) (hnl : w.1 5 = nI nl) (hnv24 : nv ≤ 24) (hnl120 : nl ≤ 120) : Met l yX3_countGone wsX3_countGone ({ frames := 2, cells := 0, slots := 0, locals := 45 }) (preR G (wv G h w) [.ref (h 0)]) (vp_Si (fun r : Int32 => True)) 0 0 (fun _ => False) := by
  refine Met.ofW (cc := cX3_countGone) (maxL := 3) (ret := (some .int)) (by decide) rfl ?_
  intro p e s m args below meth c s₁ B hml hv
  obtain ⟨ha, hP, hK, hN⟩ := hv
  subst ha
  have hx := B.exec
  have hb := B.bytes
  have hr := B.returns
  have hts := atoms_spec (ws := wsX3_countGone) B.pre
  have hown : s.vm.findClass RX3 = some m.cls := findClass_of_methodNamed B.named
  have hlocks := B.notSynchronized
  have hiX3 : ∀ w ∈ wsX30, w ∈ wsX3_countGone := fun w h9 => List.mem_cons_of_mem _ (List.mem_append_right _ (h9))
  have k28 := hts (.fieldLink RX3 28 "WovenHistory$Weave" "lines" "I") (List.mem_of_getElem? (i := 1) rfl)
  have hl := lv_entry ([.ref (h 0)]) (n := 3) (Nat.le_of_ble_eq_true rfl)
  rw [lg_entry_eq]
  generalize (lg_sl ([.ref (h 0)]) ++ List.replicate (3 - (lg_sl ([.ref (h 0)])).length) Slot.unset).toArray = ls at hl ⊢
  have hl : lv_has ls 3 [(0, .ref (h 0))] := hl
  refine lv_iconst (v := nI 0) hx hb dX3_countGone_0 (by decide) ?_
  refine lv_istore_n (lv' := [(1, .int (nI 0)), (0, .ref (h 0))]) hx hb dX3_countGone_1 rfl hl (by decide) rfl (fun ls hl => ?_)
  refine lv_iconst (v := nI 0) hx hb dX3_countGone_2 (by decide) ?_
  refine lv_istore_n (lv' := [(2, .int (nI 0)), (1, .int (nI 0)), (0, .ref (h 0))]) hx hb dX3_countGone_3 rfl hl (by decide) rfl (fun ls hl => ?_)
  have LP4 : ∀ (n4m : Nat), ∀ (k : Nat) (y : Int32) (hk : k ≤ nl), (nl - k < n4m) → ∀ (ls : Array Slot), lv_has ls 3 [(0, .ref (h 0)), (1, .int y), (2, .int (nI k))] → W p l e (headSpec wsX3_countGone ({ frames := 2, cells := 0, slots := 0, locals := 45 })).room s m ([.ref (h 0)] : List Value).toArray below meth c s.heap [] 0 0 (MQ below (vp_Si (fun r : Int32 => True)) ([.ref (h 0)] : List Value).toArray s 0 0 (fun _ => False)) (F0 m 4 ls []) := by
    intro n4m
    induction n4m with
    | zero => intro k y hk hmu ls hl; exact absurd hmu (Nat.not_lt_zero _)
    | succ n4m ih4 =>
      intro k y hk hmu ls hl
      refine lv_iload_n hx hb dX3_countGone_4 rfl (lv_at hl 2 rfl) ?_
      refine lv_aload_n hx hb dX3_countGone_5 rfl (lv_at hl 0 rfl) ?_
      refine va_get (D := gD G) (ci := 3) (v := .int (w.1 5)) (C := RX3) (T := TX3) (N := 9) hx hb hts hiX3 hown hK hP 0 rfl rfl 5 (by decide) k28 (fun _ h9 => h9) rfl dX3_countGone_6 ?_
      refine topE hnl ?_
      refine lv_icmp_ge (tgt := 29) hx hb dX3_countGone_9 (by decide) (fun c9 => ?_) (fun c9 => ?_)
      · skip
        have n9 : nl ≤ k := (nI_leI (a := nl) (b := k) (by omega) (by omega)).mp c9
        refine lv_iload_n hx hb dX3_countGone_29 rfl (lv_at hl 1 rfl) ?_
        exact W.iret (v := y) hx hb hr (fun t ht hW => ⟨y, rfl, by first | rfl | trivial | omega | assumption, ht⟩) (fun _ h9 => by cases h9) dX3_countGone_30
      · skip
        have n9 : ¬ (nl ≤ k) := fun q9 => c9 ((nI_leI (a := nl) (b := k) (by omega) (by omega)).mpr q9)
        refine lv_aload_n hx hb dX3_countGone_12 rfl (lv_at hl 0 rfl) ?_
        refine lv_iload_n hx hb dX3_countGone_13 rfl (lv_at hl 2 rfl) ?_
        refine cRi (w := wv G h w) (As := [.int (nI k)]) (rest := []) ⟨hx, hb, hml, hown, hts⟩ (mt_X3_lifeOf l G h w nv k (hnv) (by first | assumption | omega) (by first | assumption | omega)) (cwV 1 hts gX3_countGone_X3_lifeOf rfl rfl rfl ⟨rfl, hd_X3_lifeOf⟩ ⟨Nat.le_of_ble_eq_true rfl, Nat.le_of_ble_eq_true rfl⟩) hK hN hP 0 3 rfl rfl rfl hl.1 rfl (Nat.le_of_ble_eq_true rfl) ⟨Nat.zero_le _, Nat.zero_le _⟩ dX3_countGone_14 (fun r14 hw14 => ?_)
        refine lv_if_ne (tgt := 23) hx hb dX3_countGone_17 (by decide) (fun c17 => ?_) (fun c17 => ?_)
        · skip
          refine lv_iinc (v := nI (k + 1)) (lv' := [(2, .int (nI (k + 1))), (0, .ref (h 0)), (1, .int y)]) hx hb dX3_countGone_23 hl (k := 2) rfl (nI_1 k) (by decide) rfl (fun ls hl => ?_)
          refine lv_goto (tgt := 4) hx hb dX3_countGone_26 (by decide) ?_
          exact ih4 (k + 1) y (by first | assumption | omega) (by omega) ls (lv_sub hl [1, 2, 0] rfl)
        · skip
          refine lv_iinc (v := y + 1) (lv' := [(1, .int (y + 1)), (0, .ref (h 0)), (2, .int (nI k))]) hx hb dX3_countGone_20 hl (k := 1) rfl (rfl) (by decide) rfl (fun ls hl => ?_)
          refine lv_iinc (v := nI (k + 1)) (lv' := [(2, .int (nI (k + 1))), (1, .int (y + 1)), (0, .ref (h 0))]) hx hb dX3_countGone_23 hl (k := 2) rfl (nI_1 k) (by decide) rfl (fun ls hl => ?_)
          refine lv_goto (tgt := 4) hx hb dX3_countGone_26 (by decide) ?_
          exact ih4 (k + 1) (y + 1) (by first | assumption | omega) (by omega) ls (lv_sub hl [2, 1, 0] rfl)
  exact LP4 (nl - 0 + 1) 0 (nI 0) (by first | assumption | omega) (Nat.lt_succ_self _) ls (lv_sub hl [2, 1, 0] rfl)
set_option maxHeartbeats 1000000 in
set_option maxRecDepth 100000 in
theorem mt_J6_bitCount_0f7a4 (l : Launch) (x : Int32) : Met l yJ6_bitCount_0f7a4 wsJ6_bitCount_0f7a4 ({ frames := 0, cells := 0, slots := 0, locals := 0 }) (preS [.int x]) (vp_Si (fun r : Int32 => True)) 0 0 (fun _ => False) := by
  refine Met.ofW (cc := cJ6_bitCount_0f7a4) (maxL := 1) (ret := (some .int)) (by decide) rfl ?_
  intro p e s m args below meth c s₁ B hml hv
  obtain ⟨ha, -⟩ := hv
  subst ha
  have hx := B.exec
  have hb := B.bytes
  have hr := B.returns
  have hts := atoms_spec (ws := wsJ6_bitCount_0f7a4) B.pre
  have hown : s.vm.findClass RJ6 = some m.cls := findClass_of_methodNamed B.named
  have hlocks := B.notSynchronized
  have hl := lv_entry ([.int x]) (n := 1) (Nat.le_of_ble_eq_true rfl)
  rw [lg_entry_eq]
  generalize (lg_sl ([.int x]) ++ List.replicate (1 - (lg_sl ([.int x])).length) Slot.unset).toArray = ls at hl ⊢
  have hl : lv_has ls 1 [(0, .int x)] := hl
  refine lv_iload_n hx hb dJ6_bitCount_0f7a4_0 rfl (lv_at hl 0 rfl) ?_
  refine lv_iload_n hx hb dJ6_bitCount_0f7a4_1 rfl (lv_at hl 0 rfl) ?_
  refine lv_iconst (v := (1 : Int32)) hx hb dJ6_bitCount_0f7a4_2 (by decide) ?_
  refine lv_iushr (v := (x.toUInt32 >>> ((1 : Int32).toUInt32 &&& Int32.toUInt32 31)).toInt32) hx hb dJ6_bitCount_0f7a4_3 rfl ?_
  refine lv_ldcw (v := (1431655765 : Int32)) hx hb hown (hts (.constant RJ6 265 (1431655765)) (List.mem_of_getElem? (i := 1) rfl)) dJ6_bitCount_0f7a4_4 ?_
  refine lv_iand hx hb dJ6_bitCount_0f7a4_7 ?_
  refine lv_isub hx hb dJ6_bitCount_0f7a4_8 ?_
  refine lv_istore_n (lv' := [(0, .int (x - (((x.toUInt32 >>> ((1 : Int32).toUInt32 &&& Int32.toUInt32 31)).toInt32) &&& (1431655765 : Int32))))]) hx hb dJ6_bitCount_0f7a4_9 rfl hl (by decide) rfl (fun ls hl => ?_)
  refine lv_iload_n hx hb dJ6_bitCount_0f7a4_10 rfl (lv_at hl 0 rfl) ?_
  refine lv_ldcw (v := (858993459 : Int32)) hx hb hown (hts (.constant RJ6 266 (858993459)) (List.mem_of_getElem? (i := 2) rfl)) dJ6_bitCount_0f7a4_11 ?_
  refine lv_iand hx hb dJ6_bitCount_0f7a4_14 ?_
  refine lv_iload_n hx hb dJ6_bitCount_0f7a4_15 rfl (lv_at hl 0 rfl) ?_
  refine lv_iconst (v := (2 : Int32)) hx hb dJ6_bitCount_0f7a4_16 (by decide) ?_
  refine lv_iushr (v := ((x - (((x.toUInt32 >>> ((1 : Int32).toUInt32 &&& Int32.toUInt32 31)).toInt32) &&& (1431655765 : Int32))).toUInt32 >>> ((2 : Int32).toUInt32 &&& Int32.toUInt32 31)).toInt32) hx hb dJ6_bitCount_0f7a4_17 rfl ?_
  refine lv_ldcw (v := (858993459 : Int32)) hx hb hown (hts (.constant RJ6 266 (858993459)) (List.mem_of_getElem? (i := 2) rfl)) dJ6_bitCount_0f7a4_18 ?_
  refine lv_iand hx hb dJ6_bitCount_0f7a4_21 ?_
  refine lv_iadd hx hb dJ6_bitCount_0f7a4_22 ?_
  refine lv_istore_n (lv' := [(0, .int (((x - (((x.toUInt32 >>> ((1 : Int32).toUInt32 &&& Int32.toUInt32 31)).toInt32) &&& (1431655765 : Int32))) &&& (858993459 : Int32)) + ((((x - (((x.toUInt32 >>> ((1 : Int32).toUInt32 &&& Int32.toUInt32 31)).toInt32) &&& (1431655765 : Int32))).toUInt32 >>> ((2 : Int32).toUInt32 &&& Int32.toUInt32 31)).toInt32) &&& (858993459 : Int32))))]) hx hb dJ6_bitCount_0f7a4_23 rfl hl (by decide) rfl (fun ls hl => ?_)
  refine lv_iload_n hx hb dJ6_bitCount_0f7a4_24 rfl (lv_at hl 0 rfl) ?_
  refine lv_iload_n hx hb dJ6_bitCount_0f7a4_25 rfl (lv_at hl 0 rfl) ?_
  refine lv_iconst (v := (4 : Int32)) hx hb dJ6_bitCount_0f7a4_26 (by decide) ?_
  refine lv_iushr (v := ((((x - (((x.toUInt32 >>> ((1 : Int32).toUInt32 &&& Int32.toUInt32 31)).toInt32) &&& (1431655765 : Int32))) &&& (858993459 : Int32)) + ((((x - (((x.toUInt32 >>> ((1 : Int32).toUInt32 &&& Int32.toUInt32 31)).toInt32) &&& (1431655765 : Int32))).toUInt32 >>> ((2 : Int32).toUInt32 &&& Int32.toUInt32 31)).toInt32) &&& (858993459 : Int32))).toUInt32 >>> ((4 : Int32).toUInt32 &&& Int32.toUInt32 31)).toInt32) hx hb dJ6_bitCount_0f7a4_27 rfl ?_
  refine lv_iadd hx hb dJ6_bitCount_0f7a4_28 ?_
  refine lv_ldcw (v := (252645135 : Int32)) hx hb hown (hts (.constant RJ6 267 (252645135)) (List.mem_of_getElem? (i := 3) rfl)) dJ6_bitCount_0f7a4_29 ?_
  refine lv_iand hx hb dJ6_bitCount_0f7a4_32 ?_
  refine lv_istore_n (lv' := [(0, .int (((((x - (((x.toUInt32 >>> ((1 : Int32).toUInt32 &&& Int32.toUInt32 31)).toInt32) &&& (1431655765 : Int32))) &&& (858993459 : Int32)) + ((((x - (((x.toUInt32 >>> ((1 : Int32).toUInt32 &&& Int32.toUInt32 31)).toInt32) &&& (1431655765 : Int32))).toUInt32 >>> ((2 : Int32).toUInt32 &&& Int32.toUInt32 31)).toInt32) &&& (858993459 : Int32))) + (((((x - (((x.toUInt32 >>> ((1 : Int32).toUInt32 &&& Int32.toUInt32 31)).toInt32) &&& (1431655765 : Int32))) &&& (858993459 : Int32)) + ((((x - (((x.toUInt32 >>> ((1 : Int32).toUInt32 &&& Int32.toUInt32 31)).toInt32) &&& (1431655765 : Int32))).toUInt32 >>> ((2 : Int32).toUInt32 &&& Int32.toUInt32 31)).toInt32) &&& (858993459 : Int32))).toUInt32 >>> ((4 : Int32).toUInt32 &&& Int32.toUInt32 31)).toInt32)) &&& (252645135 : Int32)))]) hx hb dJ6_bitCount_0f7a4_33 rfl hl (by decide) rfl (fun ls hl => ?_)
  refine lv_iload_n hx hb dJ6_bitCount_0f7a4_34 rfl (lv_at hl 0 rfl) ?_
  refine lv_iload_n hx hb dJ6_bitCount_0f7a4_35 rfl (lv_at hl 0 rfl) ?_
  refine lv_bipush (v := (8 : Int32)) hx hb dJ6_bitCount_0f7a4_36 (by decide) ?_
  refine lv_iushr (v := ((((((x - (((x.toUInt32 >>> ((1 : Int32).toUInt32 &&& Int32.toUInt32 31)).toInt32) &&& (1431655765 : Int32))) &&& (858993459 : Int32)) + ((((x - (((x.toUInt32 >>> ((1 : Int32).toUInt32 &&& Int32.toUInt32 31)).toInt32) &&& (1431655765 : Int32))).toUInt32 >>> ((2 : Int32).toUInt32 &&& Int32.toUInt32 31)).toInt32) &&& (858993459 : Int32))) + (((((x - (((x.toUInt32 >>> ((1 : Int32).toUInt32 &&& Int32.toUInt32 31)).toInt32) &&& (1431655765 : Int32))) &&& (858993459 : Int32)) + ((((x - (((x.toUInt32 >>> ((1 : Int32).toUInt32 &&& Int32.toUInt32 31)).toInt32) &&& (1431655765 : Int32))).toUInt32 >>> ((2 : Int32).toUInt32 &&& Int32.toUInt32 31)).toInt32) &&& (858993459 : Int32))).toUInt32 >>> ((4 : Int32).toUInt32 &&& Int32.toUInt32 31)).toInt32)) &&& (252645135 : Int32)).toUInt32 >>> ((8 : Int32).toUInt32 &&& Int32.toUInt32 31)).toInt32) hx hb dJ6_bitCount_0f7a4_38 rfl ?_
  refine lv_iadd hx hb dJ6_bitCount_0f7a4_39 ?_
  refine lv_istore_n (lv' := [(0, .int ((((((x - (((x.toUInt32 >>> ((1 : Int32).toUInt32 &&& Int32.toUInt32 31)).toInt32) &&& (1431655765 : Int32))) &&& (858993459 : Int32)) + ((((x - (((x.toUInt32 >>> ((1 : Int32).toUInt32 &&& Int32.toUInt32 31)).toInt32) &&& (1431655765 : Int32))).toUInt32 >>> ((2 : Int32).toUInt32 &&& Int32.toUInt32 31)).toInt32) &&& (858993459 : Int32))) + (((((x - (((x.toUInt32 >>> ((1 : Int32).toUInt32 &&& Int32.toUInt32 31)).toInt32) &&& (1431655765 : Int32))) &&& (858993459 : Int32)) + ((((x - (((x.toUInt32 >>> ((1 : Int32).toUInt32 &&& Int32.toUInt32 31)).toInt32) &&& (1431655765 : Int32))).toUInt32 >>> ((2 : Int32).toUInt32 &&& Int32.toUInt32 31)).toInt32) &&& (858993459 : Int32))).toUInt32 >>> ((4 : Int32).toUInt32 &&& Int32.toUInt32 31)).toInt32)) &&& (252645135 : Int32)) + (((((((x - (((x.toUInt32 >>> ((1 : Int32).toUInt32 &&& Int32.toUInt32 31)).toInt32) &&& (1431655765 : Int32))) &&& (858993459 : Int32)) + ((((x - (((x.toUInt32 >>> ((1 : Int32).toUInt32 &&& Int32.toUInt32 31)).toInt32) &&& (1431655765 : Int32))).toUInt32 >>> ((2 : Int32).toUInt32 &&& Int32.toUInt32 31)).toInt32) &&& (858993459 : Int32))) + (((((x - (((x.toUInt32 >>> ((1 : Int32).toUInt32 &&& Int32.toUInt32 31)).toInt32) &&& (1431655765 : Int32))) &&& (858993459 : Int32)) + ((((x - (((x.toUInt32 >>> ((1 : Int32).toUInt32 &&& Int32.toUInt32 31)).toInt32) &&& (1431655765 : Int32))).toUInt32 >>> ((2 : Int32).toUInt32 &&& Int32.toUInt32 31)).toInt32) &&& (858993459 : Int32))).toUInt32 >>> ((4 : Int32).toUInt32 &&& Int32.toUInt32 31)).toInt32)) &&& (252645135 : Int32)).toUInt32 >>> ((8 : Int32).toUInt32 &&& Int32.toUInt32 31)).toInt32)))]) hx hb dJ6_bitCount_0f7a4_40 rfl hl (by decide) rfl (fun ls hl => ?_)
  refine lv_iload_n hx hb dJ6_bitCount_0f7a4_41 rfl (lv_at hl 0 rfl) ?_
  refine lv_iload_n hx hb dJ6_bitCount_0f7a4_42 rfl (lv_at hl 0 rfl) ?_
  refine lv_bipush (v := (16 : Int32)) hx hb dJ6_bitCount_0f7a4_43 (by decide) ?_
  refine lv_iushr (v := (((((((x - (((x.toUInt32 >>> ((1 : Int32).toUInt32 &&& Int32.toUInt32 31)).toInt32) &&& (1431655765 : Int32))) &&& (858993459 : Int32)) + ((((x - (((x.toUInt32 >>> ((1 : Int32).toUInt32 &&& Int32.toUInt32 31)).toInt32) &&& (1431655765 : Int32))).toUInt32 >>> ((2 : Int32).toUInt32 &&& Int32.toUInt32 31)).toInt32) &&& (858993459 : Int32))) + (((((x - (((x.toUInt32 >>> ((1 : Int32).toUInt32 &&& Int32.toUInt32 31)).toInt32) &&& (1431655765 : Int32))) &&& (858993459 : Int32)) + ((((x - (((x.toUInt32 >>> ((1 : Int32).toUInt32 &&& Int32.toUInt32 31)).toInt32) &&& (1431655765 : Int32))).toUInt32 >>> ((2 : Int32).toUInt32 &&& Int32.toUInt32 31)).toInt32) &&& (858993459 : Int32))).toUInt32 >>> ((4 : Int32).toUInt32 &&& Int32.toUInt32 31)).toInt32)) &&& (252645135 : Int32)) + (((((((x - (((x.toUInt32 >>> ((1 : Int32).toUInt32 &&& Int32.toUInt32 31)).toInt32) &&& (1431655765 : Int32))) &&& (858993459 : Int32)) + ((((x - (((x.toUInt32 >>> ((1 : Int32).toUInt32 &&& Int32.toUInt32 31)).toInt32) &&& (1431655765 : Int32))).toUInt32 >>> ((2 : Int32).toUInt32 &&& Int32.toUInt32 31)).toInt32) &&& (858993459 : Int32))) + (((((x - (((x.toUInt32 >>> ((1 : Int32).toUInt32 &&& Int32.toUInt32 31)).toInt32) &&& (1431655765 : Int32))) &&& (858993459 : Int32)) + ((((x - (((x.toUInt32 >>> ((1 : Int32).toUInt32 &&& Int32.toUInt32 31)).toInt32) &&& (1431655765 : Int32))).toUInt32 >>> ((2 : Int32).toUInt32 &&& Int32.toUInt32 31)).toInt32) &&& (858993459 : Int32))).toUInt32 >>> ((4 : Int32).toUInt32 &&& Int32.toUInt32 31)).toInt32)) &&& (252645135 : Int32)).toUInt32 >>> ((8 : Int32).toUInt32 &&& Int32.toUInt32 31)).toInt32)).toUInt32 >>> ((16 : Int32).toUInt32 &&& Int32.toUInt32 31)).toInt32) hx hb dJ6_bitCount_0f7a4_45 rfl ?_
  refine lv_iadd hx hb dJ6_bitCount_0f7a4_46 ?_
  refine lv_istore_n (lv' := [(0, .int (((((((x - (((x.toUInt32 >>> ((1 : Int32).toUInt32 &&& Int32.toUInt32 31)).toInt32) &&& (1431655765 : Int32))) &&& (858993459 : Int32)) + ((((x - (((x.toUInt32 >>> ((1 : Int32).toUInt32 &&& Int32.toUInt32 31)).toInt32) &&& (1431655765 : Int32))).toUInt32 >>> ((2 : Int32).toUInt32 &&& Int32.toUInt32 31)).toInt32) &&& (858993459 : Int32))) + (((((x - (((x.toUInt32 >>> ((1 : Int32).toUInt32 &&& Int32.toUInt32 31)).toInt32) &&& (1431655765 : Int32))) &&& (858993459 : Int32)) + ((((x - (((x.toUInt32 >>> ((1 : Int32).toUInt32 &&& Int32.toUInt32 31)).toInt32) &&& (1431655765 : Int32))).toUInt32 >>> ((2 : Int32).toUInt32 &&& Int32.toUInt32 31)).toInt32) &&& (858993459 : Int32))).toUInt32 >>> ((4 : Int32).toUInt32 &&& Int32.toUInt32 31)).toInt32)) &&& (252645135 : Int32)) + (((((((x - (((x.toUInt32 >>> ((1 : Int32).toUInt32 &&& Int32.toUInt32 31)).toInt32) &&& (1431655765 : Int32))) &&& (858993459 : Int32)) + ((((x - (((x.toUInt32 >>> ((1 : Int32).toUInt32 &&& Int32.toUInt32 31)).toInt32) &&& (1431655765 : Int32))).toUInt32 >>> ((2 : Int32).toUInt32 &&& Int32.toUInt32 31)).toInt32) &&& (858993459 : Int32))) + (((((x - (((x.toUInt32 >>> ((1 : Int32).toUInt32 &&& Int32.toUInt32 31)).toInt32) &&& (1431655765 : Int32))) &&& (858993459 : Int32)) + ((((x - (((x.toUInt32 >>> ((1 : Int32).toUInt32 &&& Int32.toUInt32 31)).toInt32) &&& (1431655765 : Int32))).toUInt32 >>> ((2 : Int32).toUInt32 &&& Int32.toUInt32 31)).toInt32) &&& (858993459 : Int32))).toUInt32 >>> ((4 : Int32).toUInt32 &&& Int32.toUInt32 31)).toInt32)) &&& (252645135 : Int32)).toUInt32 >>> ((8 : Int32).toUInt32 &&& Int32.toUInt32 31)).toInt32)) + ((((((((x - (((x.toUInt32 >>> ((1 : Int32).toUInt32 &&& Int32.toUInt32 31)).toInt32) &&& (1431655765 : Int32))) &&& (858993459 : Int32)) + ((((x - (((x.toUInt32 >>> ((1 : Int32).toUInt32 &&& Int32.toUInt32 31)).toInt32) &&& (1431655765 : Int32))).toUInt32 >>> ((2 : Int32).toUInt32 &&& Int32.toUInt32 31)).toInt32) &&& (858993459 : Int32))) + (((((x - (((x.toUInt32 >>> ((1 : Int32).toUInt32 &&& Int32.toUInt32 31)).toInt32) &&& (1431655765 : Int32))) &&& (858993459 : Int32)) + ((((x - (((x.toUInt32 >>> ((1 : Int32).toUInt32 &&& Int32.toUInt32 31)).toInt32) &&& (1431655765 : Int32))).toUInt32 >>> ((2 : Int32).toUInt32 &&& Int32.toUInt32 31)).toInt32) &&& (858993459 : Int32))).toUInt32 >>> ((4 : Int32).toUInt32 &&& Int32.toUInt32 31)).toInt32)) &&& (252645135 : Int32)) + (((((((x - (((x.toUInt32 >>> ((1 : Int32).toUInt32 &&& Int32.toUInt32 31)).toInt32) &&& (1431655765 : Int32))) &&& (858993459 : Int32)) + ((((x - (((x.toUInt32 >>> ((1 : Int32).toUInt32 &&& Int32.toUInt32 31)).toInt32) &&& (1431655765 : Int32))).toUInt32 >>> ((2 : Int32).toUInt32 &&& Int32.toUInt32 31)).toInt32) &&& (858993459 : Int32))) + (((((x - (((x.toUInt32 >>> ((1 : Int32).toUInt32 &&& Int32.toUInt32 31)).toInt32) &&& (1431655765 : Int32))) &&& (858993459 : Int32)) + ((((x - (((x.toUInt32 >>> ((1 : Int32).toUInt32 &&& Int32.toUInt32 31)).toInt32) &&& (1431655765 : Int32))).toUInt32 >>> ((2 : Int32).toUInt32 &&& Int32.toUInt32 31)).toInt32) &&& (858993459 : Int32))).toUInt32 >>> ((4 : Int32).toUInt32 &&& Int32.toUInt32 31)).toInt32)) &&& (252645135 : Int32)).toUInt32 >>> ((8 : Int32).toUInt32 &&& Int32.toUInt32 31)).toInt32)).toUInt32 >>> ((16 : Int32).toUInt32 &&& Int32.toUInt32 31)).toInt32)))]) hx hb dJ6_bitCount_0f7a4_47 rfl hl (by decide) rfl (fun ls hl => ?_)
  refine lv_iload_n hx hb dJ6_bitCount_0f7a4_48 rfl (lv_at hl 0 rfl) ?_
  refine lv_bipush (v := (63 : Int32)) hx hb dJ6_bitCount_0f7a4_49 (by decide) ?_
  refine lv_iand hx hb dJ6_bitCount_0f7a4_51 ?_
  exact W.iret (v := (((((((x - (((x.toUInt32 >>> ((1 : Int32).toUInt32 &&& Int32.toUInt32 31)).toInt32) &&& (1431655765 : Int32))) &&& (858993459 : Int32)) + ((((x - (((x.toUInt32 >>> ((1 : Int32).toUInt32 &&& Int32.toUInt32 31)).toInt32) &&& (1431655765 : Int32))).toUInt32 >>> ((2 : Int32).toUInt32 &&& Int32.toUInt32 31)).toInt32) &&& (858993459 : Int32))) + (((((x - (((x.toUInt32 >>> ((1 : Int32).toUInt32 &&& Int32.toUInt32 31)).toInt32) &&& (1431655765 : Int32))) &&& (858993459 : Int32)) + ((((x - (((x.toUInt32 >>> ((1 : Int32).toUInt32 &&& Int32.toUInt32 31)).toInt32) &&& (1431655765 : Int32))).toUInt32 >>> ((2 : Int32).toUInt32 &&& Int32.toUInt32 31)).toInt32) &&& (858993459 : Int32))).toUInt32 >>> ((4 : Int32).toUInt32 &&& Int32.toUInt32 31)).toInt32)) &&& (252645135 : Int32)) + (((((((x - (((x.toUInt32 >>> ((1 : Int32).toUInt32 &&& Int32.toUInt32 31)).toInt32) &&& (1431655765 : Int32))) &&& (858993459 : Int32)) + ((((x - (((x.toUInt32 >>> ((1 : Int32).toUInt32 &&& Int32.toUInt32 31)).toInt32) &&& (1431655765 : Int32))).toUInt32 >>> ((2 : Int32).toUInt32 &&& Int32.toUInt32 31)).toInt32) &&& (858993459 : Int32))) + (((((x - (((x.toUInt32 >>> ((1 : Int32).toUInt32 &&& Int32.toUInt32 31)).toInt32) &&& (1431655765 : Int32))) &&& (858993459 : Int32)) + ((((x - (((x.toUInt32 >>> ((1 : Int32).toUInt32 &&& Int32.toUInt32 31)).toInt32) &&& (1431655765 : Int32))).toUInt32 >>> ((2 : Int32).toUInt32 &&& Int32.toUInt32 31)).toInt32) &&& (858993459 : Int32))).toUInt32 >>> ((4 : Int32).toUInt32 &&& Int32.toUInt32 31)).toInt32)) &&& (252645135 : Int32)).toUInt32 >>> ((8 : Int32).toUInt32 &&& Int32.toUInt32 31)).toInt32)) + ((((((((x - (((x.toUInt32 >>> ((1 : Int32).toUInt32 &&& Int32.toUInt32 31)).toInt32) &&& (1431655765 : Int32))) &&& (858993459 : Int32)) + ((((x - (((x.toUInt32 >>> ((1 : Int32).toUInt32 &&& Int32.toUInt32 31)).toInt32) &&& (1431655765 : Int32))).toUInt32 >>> ((2 : Int32).toUInt32 &&& Int32.toUInt32 31)).toInt32) &&& (858993459 : Int32))) + (((((x - (((x.toUInt32 >>> ((1 : Int32).toUInt32 &&& Int32.toUInt32 31)).toInt32) &&& (1431655765 : Int32))) &&& (858993459 : Int32)) + ((((x - (((x.toUInt32 >>> ((1 : Int32).toUInt32 &&& Int32.toUInt32 31)).toInt32) &&& (1431655765 : Int32))).toUInt32 >>> ((2 : Int32).toUInt32 &&& Int32.toUInt32 31)).toInt32) &&& (858993459 : Int32))).toUInt32 >>> ((4 : Int32).toUInt32 &&& Int32.toUInt32 31)).toInt32)) &&& (252645135 : Int32)) + (((((((x - (((x.toUInt32 >>> ((1 : Int32).toUInt32 &&& Int32.toUInt32 31)).toInt32) &&& (1431655765 : Int32))) &&& (858993459 : Int32)) + ((((x - (((x.toUInt32 >>> ((1 : Int32).toUInt32 &&& Int32.toUInt32 31)).toInt32) &&& (1431655765 : Int32))).toUInt32 >>> ((2 : Int32).toUInt32 &&& Int32.toUInt32 31)).toInt32) &&& (858993459 : Int32))) + (((((x - (((x.toUInt32 >>> ((1 : Int32).toUInt32 &&& Int32.toUInt32 31)).toInt32) &&& (1431655765 : Int32))) &&& (858993459 : Int32)) + ((((x - (((x.toUInt32 >>> ((1 : Int32).toUInt32 &&& Int32.toUInt32 31)).toInt32) &&& (1431655765 : Int32))).toUInt32 >>> ((2 : Int32).toUInt32 &&& Int32.toUInt32 31)).toInt32) &&& (858993459 : Int32))).toUInt32 >>> ((4 : Int32).toUInt32 &&& Int32.toUInt32 31)).toInt32)) &&& (252645135 : Int32)).toUInt32 >>> ((8 : Int32).toUInt32 &&& Int32.toUInt32 31)).toInt32)).toUInt32 >>> ((16 : Int32).toUInt32 &&& Int32.toUInt32 31)).toInt32)) &&& (63 : Int32)) hx hb hr (fun t ht hW => ⟨(((((((x - (((x.toUInt32 >>> ((1 : Int32).toUInt32 &&& Int32.toUInt32 31)).toInt32) &&& (1431655765 : Int32))) &&& (858993459 : Int32)) + ((((x - (((x.toUInt32 >>> ((1 : Int32).toUInt32 &&& Int32.toUInt32 31)).toInt32) &&& (1431655765 : Int32))).toUInt32 >>> ((2 : Int32).toUInt32 &&& Int32.toUInt32 31)).toInt32) &&& (858993459 : Int32))) + (((((x - (((x.toUInt32 >>> ((1 : Int32).toUInt32 &&& Int32.toUInt32 31)).toInt32) &&& (1431655765 : Int32))) &&& (858993459 : Int32)) + ((((x - (((x.toUInt32 >>> ((1 : Int32).toUInt32 &&& Int32.toUInt32 31)).toInt32) &&& (1431655765 : Int32))).toUInt32 >>> ((2 : Int32).toUInt32 &&& Int32.toUInt32 31)).toInt32) &&& (858993459 : Int32))).toUInt32 >>> ((4 : Int32).toUInt32 &&& Int32.toUInt32 31)).toInt32)) &&& (252645135 : Int32)) + (((((((x - (((x.toUInt32 >>> ((1 : Int32).toUInt32 &&& Int32.toUInt32 31)).toInt32) &&& (1431655765 : Int32))) &&& (858993459 : Int32)) + ((((x - (((x.toUInt32 >>> ((1 : Int32).toUInt32 &&& Int32.toUInt32 31)).toInt32) &&& (1431655765 : Int32))).toUInt32 >>> ((2 : Int32).toUInt32 &&& Int32.toUInt32 31)).toInt32) &&& (858993459 : Int32))) + (((((x - (((x.toUInt32 >>> ((1 : Int32).toUInt32 &&& Int32.toUInt32 31)).toInt32) &&& (1431655765 : Int32))) &&& (858993459 : Int32)) + ((((x - (((x.toUInt32 >>> ((1 : Int32).toUInt32 &&& Int32.toUInt32 31)).toInt32) &&& (1431655765 : Int32))).toUInt32 >>> ((2 : Int32).toUInt32 &&& Int32.toUInt32 31)).toInt32) &&& (858993459 : Int32))).toUInt32 >>> ((4 : Int32).toUInt32 &&& Int32.toUInt32 31)).toInt32)) &&& (252645135 : Int32)).toUInt32 >>> ((8 : Int32).toUInt32 &&& Int32.toUInt32 31)).toInt32)) + ((((((((x - (((x.toUInt32 >>> ((1 : Int32).toUInt32 &&& Int32.toUInt32 31)).toInt32) &&& (1431655765 : Int32))) &&& (858993459 : Int32)) + ((((x - (((x.toUInt32 >>> ((1 : Int32).toUInt32 &&& Int32.toUInt32 31)).toInt32) &&& (1431655765 : Int32))).toUInt32 >>> ((2 : Int32).toUInt32 &&& Int32.toUInt32 31)).toInt32) &&& (858993459 : Int32))) + (((((x - (((x.toUInt32 >>> ((1 : Int32).toUInt32 &&& Int32.toUInt32 31)).toInt32) &&& (1431655765 : Int32))) &&& (858993459 : Int32)) + ((((x - (((x.toUInt32 >>> ((1 : Int32).toUInt32 &&& Int32.toUInt32 31)).toInt32) &&& (1431655765 : Int32))).toUInt32 >>> ((2 : Int32).toUInt32 &&& Int32.toUInt32 31)).toInt32) &&& (858993459 : Int32))).toUInt32 >>> ((4 : Int32).toUInt32 &&& Int32.toUInt32 31)).toInt32)) &&& (252645135 : Int32)) + (((((((x - (((x.toUInt32 >>> ((1 : Int32).toUInt32 &&& Int32.toUInt32 31)).toInt32) &&& (1431655765 : Int32))) &&& (858993459 : Int32)) + ((((x - (((x.toUInt32 >>> ((1 : Int32).toUInt32 &&& Int32.toUInt32 31)).toInt32) &&& (1431655765 : Int32))).toUInt32 >>> ((2 : Int32).toUInt32 &&& Int32.toUInt32 31)).toInt32) &&& (858993459 : Int32))) + (((((x - (((x.toUInt32 >>> ((1 : Int32).toUInt32 &&& Int32.toUInt32 31)).toInt32) &&& (1431655765 : Int32))) &&& (858993459 : Int32)) + ((((x - (((x.toUInt32 >>> ((1 : Int32).toUInt32 &&& Int32.toUInt32 31)).toInt32) &&& (1431655765 : Int32))).toUInt32 >>> ((2 : Int32).toUInt32 &&& Int32.toUInt32 31)).toInt32) &&& (858993459 : Int32))).toUInt32 >>> ((4 : Int32).toUInt32 &&& Int32.toUInt32 31)).toInt32)) &&& (252645135 : Int32)).toUInt32 >>> ((8 : Int32).toUInt32 &&& Int32.toUInt32 31)).toInt32)).toUInt32 >>> ((16 : Int32).toUInt32 &&& Int32.toUInt32 31)).toInt32)) &&& (63 : Int32), rfl, by first | rfl | trivial | omega | assumption, ht⟩) (fun _ h9 => by cases h9) dJ6_bitCount_0f7a4_52
set_option maxHeartbeats 1000000 in
set_option maxRecDepth 100000 in
theorem mt_X3_greatestNesting (l : Launch) (G : gG) (h : Nat → Nat) (w : oS) (nl : Nat) (hnl : w.1 5 = nI nl) (hnl120 : nl ≤ 120) : Met l yX3_greatestNesting wsX3_greatestNesting ({ frames := 1, cells := 0, slots := 0, locals := 26 }) (preR G (wv G h w) [.ref (h 0)]) (vp_Si (fun r : Int32 => True)) 0 0 (fun _ => False) := by
  refine Met.ofW (cc := cX3_greatestNesting) (maxL := 3) (ret := (some .int)) (by decide) rfl ?_
  intro p e s m args below meth c s₁ B hml hv
  obtain ⟨ha, hP, hK, hN⟩ := hv
  subst ha
  have hx := B.exec
  have hb := B.bytes
  have hr := B.returns
  have hts := atoms_spec (ws := wsX3_greatestNesting) B.pre
  have hown : s.vm.findClass RX3 = some m.cls := findClass_of_methodNamed B.named
  have hlocks := B.notSynchronized
  have hiX3 : ∀ w ∈ wsX30, w ∈ wsX3_greatestNesting := fun w h9 => List.mem_cons_of_mem _ (List.mem_append_right _ (h9))
  have k28 := hts (.fieldLink RX3 28 "WovenHistory$Weave" "lines" "I") (List.mem_of_getElem? (i := 1) rfl)
  have k37 := hts (.fieldLink RX3 37 "WovenHistory$Weave" "took" "[I") (List.mem_of_getElem? (i := 2) rfl)
  have hl := lv_entry ([.ref (h 0)]) (n := 3) (Nat.le_of_ble_eq_true rfl)
  rw [lg_entry_eq]
  generalize (lg_sl ([.ref (h 0)]) ++ List.replicate (3 - (lg_sl ([.ref (h 0)])).length) Slot.unset).toArray = ls at hl ⊢
  have hl : lv_has ls 3 [(0, .ref (h 0))] := hl
  refine lv_iconst (v := nI 0) hx hb dX3_greatestNesting_0 (by decide) ?_
  refine lv_istore_n (lv' := [(1, .int (nI 0)), (0, .ref (h 0))]) hx hb dX3_greatestNesting_1 rfl hl (by decide) rfl (fun ls hl => ?_)
  refine lv_iconst (v := nI 0) hx hb dX3_greatestNesting_2 (by decide) ?_
  refine lv_istore_n (lv' := [(2, .int (nI 0)), (1, .int (nI 0)), (0, .ref (h 0))]) hx hb dX3_greatestNesting_3 rfl hl (by decide) rfl (fun ls hl => ?_)
  have LP4 : ∀ (n4m : Nat), ∀ (k : Nat) (y : Int32) (hk : k ≤ nl), (nl - k < n4m) → ∀ (ls : Array Slot), lv_has ls 3 [(0, .ref (h 0)), (1, .int y), (2, .int (nI k))] → W p l e (headSpec wsX3_greatestNesting ({ frames := 1, cells := 0, slots := 0, locals := 26 })).room s m ([.ref (h 0)] : List Value).toArray below meth c s.heap [] 0 0 (MQ below (vp_Si (fun r : Int32 => True)) ([.ref (h 0)] : List Value).toArray s 0 0 (fun _ => False)) (F0 m 4 ls []) := by
    intro n4m
    induction n4m with
    | zero => intro k y hk hmu ls hl; exact absurd hmu (Nat.not_lt_zero _)
    | succ n4m ih4 =>
      intro k y hk hmu ls hl
      refine lv_iload_n hx hb dX3_greatestNesting_4 rfl (lv_at hl 2 rfl) ?_
      refine lv_aload_n hx hb dX3_greatestNesting_5 rfl (lv_at hl 0 rfl) ?_
      refine va_get (D := gD G) (ci := 3) (v := .int (w.1 5)) (C := RX3) (T := TX3) (N := 9) hx hb hts hiX3 hown hK hP 0 rfl rfl 5 (by decide) k28 (fun _ h9 => h9) rfl dX3_greatestNesting_6 ?_
      refine topE hnl ?_
      refine lv_icmp_ge (tgt := 34) hx hb dX3_greatestNesting_9 (by decide) (fun c9 => ?_) (fun c9 => ?_)
      · skip
        have n9 : nl ≤ k := (nI_leI (a := nl) (b := k) (by omega) (by omega)).mp c9
        refine lv_iload_n hx hb dX3_greatestNesting_34 rfl (lv_at hl 1 rfl) ?_
        exact W.iret (v := y) hx hb hr (fun t ht hW => ⟨y, rfl, by first | rfl | trivial | omega | assumption, ht⟩) (fun _ h9 => by cases h9) dX3_greatestNesting_35
      · skip
        have n9 : ¬ (nl ≤ k) := fun q9 => c9 ((nI_leI (a := nl) (b := k) (by omega) (by omega)).mpr q9)
        refine lv_iload_n hx hb dX3_greatestNesting_12 rfl (lv_at hl 1 rfl) ?_
        refine lv_iconst (v := nI 1) hx hb dX3_greatestNesting_13 (by decide) ?_
        refine lv_aload_n hx hb dX3_greatestNesting_14 rfl (lv_at hl 0 rfl) ?_
        refine va_get (D := gD G) (ci := 3) (v := .ref (h 8)) (C := RX3) (T := TX3) (N := 9) hx hb hts hiX3 hown hK hP 0 rfl rfl 8 (by decide) k37 (fun _ h9 => h9) rfl dX3_greatestNesting_15 ?_
        refine lv_iload_n hx hb dX3_greatestNesting_18 rfl (lv_at hl 2 rfl) ?_
        refine ialdN (f := w.2 8) (n := 120) (k := k) hx hb hK hP 7 rfl rfl (by omega) dX3_greatestNesting_19 ?_
        refine cSi (As := [.int ((w.2 8) k)]) (rest := [.int (nI 1), .int y]) ⟨hx, hb, hml, hown, hts⟩ (mt_J6_bitCount_0f7a4 l ((w.2 8) k)) (va_cwS 1 hts gX3_greatestNesting_J6_bitCount_0f7a4 rfl rfl rfl hd_J6_bitCount_0f7a4 ⟨Nat.le_of_ble_eq_true rfl, Nat.le_of_ble_eq_true rfl⟩) rfl hl.1 rfl (Nat.le_of_ble_eq_true rfl) ⟨Nat.zero_le _, Nat.zero_le _⟩ dX3_greatestNesting_20 (fun r20 hw20 => ?_)
        refine lv_iadd hx hb dX3_greatestNesting_23 ?_
        refine va_mmax (x := y) (y := (nI 1) + r20) hx hb (hml.trans hl.1.symm) hown (hts (.methodLink RX3 94 Lib.Math.max.name) (List.mem_of_getElem? (i := 3) rfl)) (hts (.static Lib.Math.max.name) (List.mem_of_getElem? (i := 4) rfl)) (hts (.initialized "java/lang/Math") (List.mem_of_getElem? (i := 5) rfl)) (hts (.code Lib.Math.max.name Lib.Math.max.code 2 (some .int)) (List.mem_of_getElem? (i := 6) rfl)) (Nat.le_of_ble_eq_true rfl) (Nat.le_of_ble_eq_true rfl) (Nat.zero_le _) (Nat.zero_le _) dX3_greatestNesting_24 ?_
        refine lv_istore_n (lv' := [(1, .int (if y < ((nI 1) + r20) then ((nI 1) + r20) else y)), (0, .ref (h 0)), (2, .int (nI k))]) hx hb dX3_greatestNesting_27 rfl hl (by decide) rfl (fun ls hl => ?_)
        refine lv_iinc (v := nI (k + 1)) (lv' := [(2, .int (nI (k + 1))), (1, .int (if y < ((nI 1) + r20) then ((nI 1) + r20) else y)), (0, .ref (h 0))]) hx hb dX3_greatestNesting_28 hl (k := 2) rfl (nI_1 k) (by decide) rfl (fun ls hl => ?_)
        refine lv_goto (tgt := 4) hx hb dX3_greatestNesting_31 (by decide) ?_
        exact ih4 (k + 1) (if y < ((nI 1) + r20) then ((nI 1) + r20) else y) (by first | assumption | omega) (by omega) ls (lv_sub hl [2, 1, 0] rfl)
  exact LP4 (nl - 0 + 1) 0 (nI 0) (by first | assumption | omega) (Nat.lt_succ_self _) ls (lv_sub hl [2, 1, 0] rfl)
set_option maxHeartbeats 1000000 in
set_option maxRecDepth 100000 in
theorem mt_X3_beginsBlock (l : Launch) (G : gG) (h : Nat → Nat) (w : oS) (i : Nat) (hi : i < 120) : Met l yX3_beginsBlock wsX3_beginsBlock ({ frames := 0, cells := 0, slots := 0, locals := 0 }) (preR G (wv G h w) [.ref (h 0), .int (nI i)]) (vp_Si (fun r : Int32 => r = 1 ∨ r = 0)) 0 0 (fun _ => False) := by
  refine Met.ofW (cc := cX3_beginsBlock) (maxL := 2) (ret := (some .boolean)) (by decide) rfl ?_
  intro p e s m args below meth c s₁ B hml hv
  obtain ⟨ha, hP, hK, hN⟩ := hv
  subst ha
  have hx := B.exec
  have hb := B.bytes
  have hr := B.returns
  have hts := atoms_spec (ws := wsX3_beginsBlock) B.pre
  have hown : s.vm.findClass RX3 = some m.cls := findClass_of_methodNamed B.named
  have hlocks := B.notSynchronized
  have hiX3 : ∀ w ∈ wsX30, w ∈ wsX3_beginsBlock := fun w h9 => List.mem_cons_of_mem _ (List.mem_append_right _ (h9))
  have k34 := hts (.fieldLink RX3 34 "WovenHistory$Weave" "brought" "[I") (List.mem_of_getElem? (i := 1) rfl)
  have k37 := hts (.fieldLink RX3 37 "WovenHistory$Weave" "took" "[I") (List.mem_of_getElem? (i := 2) rfl)
  have hl := lv_entry ([.ref (h 0), .int (nI i)]) (n := 2) (Nat.le_of_ble_eq_true rfl)
  rw [lg_entry_eq]
  generalize (lg_sl ([.ref (h 0), .int (nI i)]) ++ List.replicate (2 - (lg_sl ([.ref (h 0), .int (nI i)])).length) Slot.unset).toArray = ls at hl ⊢
  have hl : lv_has ls 2 [(0, .ref (h 0)), (1, .int (nI i))] := hl
  refine lv_iload_n hx hb dX3_beginsBlock_0 rfl (lv_at hl 1 rfl) ?_
  refine lv_if_eq (tgt := 38) hx hb dX3_beginsBlock_1 (by decide) (fun c1 => ?_) (fun c1 => ?_)
  · skip
    have n1 : i = 0 := (nI_eq (a := i) (b := 0) (by omega) (by omega)).mp c1
    refine lv_iconst (v := nI 1) hx hb dX3_beginsBlock_38 (by decide) ?_
    refine lv_goto (tgt := 43) hx hb dX3_beginsBlock_39 (by decide) ?_
    exact W.zret (v := nI 1) hx hb hr (by decide) (fun t ht hW => ⟨nI 1, rfl, by first | exact Or.inl rfl | exact Or.inr rfl, ht⟩) (fun _ h9 => by cases h9) dX3_beginsBlock_43
  · skip
    have n1 : ¬ (i = 0) := fun q9 => c1 ((nI_eq (a := i) (b := 0) (by omega) (by omega)).mpr q9)
    refine lv_aload_n hx hb dX3_beginsBlock_4 rfl (lv_at hl 0 rfl) ?_
    refine va_get (D := gD G) (ci := 3) (v := .ref (h 7)) (C := RX3) (T := TX3) (N := 9) hx hb hts hiX3 hown hK hP 0 rfl rfl 7 (by decide) k34 (fun _ h9 => h9) rfl dX3_beginsBlock_5 ?_
    refine lv_iload_n hx hb dX3_beginsBlock_8 rfl (lv_at hl 1 rfl) ?_
    refine ialdN (f := w.2 7) (n := 120) (k := i) hx hb hK hP 6 rfl rfl (by omega) dX3_beginsBlock_9 ?_
    refine lv_aload_n hx hb dX3_beginsBlock_10 rfl (lv_at hl 0 rfl) ?_
    refine va_get (D := gD G) (ci := 3) (v := .ref (h 7)) (C := RX3) (T := TX3) (N := 9) hx hb hts hiX3 hown hK hP 0 rfl rfl 7 (by decide) k34 (fun _ h9 => h9) rfl dX3_beginsBlock_11 ?_
    refine lv_iload_n hx hb dX3_beginsBlock_14 rfl (lv_at hl 1 rfl) ?_
    refine lv_iconst (v := nI 1) hx hb dX3_beginsBlock_15 (by decide) ?_
    refine lv_isub hx hb dX3_beginsBlock_16 ?_
    refine topE (y := nI (i - 1)) (pk_sub (by omega)) ?_
    refine ialdN (f := w.2 7) (n := 120) (k := i - 1) hx hb hK hP 6 rfl rfl (by omega) dX3_beginsBlock_17 ?_
    refine lv_icmp_ne (tgt := 38) hx hb dX3_beginsBlock_18 (by decide) (fun c18 => ?_) (fun c18 => ?_)
    · skip
      refine lv_iconst (v := nI 1) hx hb dX3_beginsBlock_38 (by decide) ?_
      refine lv_goto (tgt := 43) hx hb dX3_beginsBlock_39 (by decide) ?_
      exact W.zret (v := nI 1) hx hb hr (by decide) (fun t ht hW => ⟨nI 1, rfl, by first | exact Or.inl rfl | exact Or.inr rfl, ht⟩) (fun _ h9 => by cases h9) dX3_beginsBlock_43
    · skip
      refine lv_aload_n hx hb dX3_beginsBlock_21 rfl (lv_at hl 0 rfl) ?_
      refine va_get (D := gD G) (ci := 3) (v := .ref (h 8)) (C := RX3) (T := TX3) (N := 9) hx hb hts hiX3 hown hK hP 0 rfl rfl 8 (by decide) k37 (fun _ h9 => h9) rfl dX3_beginsBlock_22 ?_
      refine lv_iload_n hx hb dX3_beginsBlock_25 rfl (lv_at hl 1 rfl) ?_
      refine ialdN (f := w.2 8) (n := 120) (k := i) hx hb hK hP 7 rfl rfl (by omega) dX3_beginsBlock_26 ?_
      refine lv_aload_n hx hb dX3_beginsBlock_27 rfl (lv_at hl 0 rfl) ?_
      refine va_get (D := gD G) (ci := 3) (v := .ref (h 8)) (C := RX3) (T := TX3) (N := 9) hx hb hts hiX3 hown hK hP 0 rfl rfl 8 (by decide) k37 (fun _ h9 => h9) rfl dX3_beginsBlock_28 ?_
      refine lv_iload_n hx hb dX3_beginsBlock_31 rfl (lv_at hl 1 rfl) ?_
      refine lv_iconst (v := nI 1) hx hb dX3_beginsBlock_32 (by decide) ?_
      refine lv_isub hx hb dX3_beginsBlock_33 ?_
      refine topE (y := nI (i - 1)) (pk_sub (by omega)) ?_
      refine ialdN (f := w.2 8) (n := 120) (k := i - 1) hx hb hK hP 7 rfl rfl (by omega) dX3_beginsBlock_34 ?_
      refine lv_icmp_eq (tgt := 42) hx hb dX3_beginsBlock_35 (by decide) (fun c35 => ?_) (fun c35 => ?_)
      · skip
        refine lv_iconst (v := nI 0) hx hb dX3_beginsBlock_42 (by decide) ?_
        exact W.zret (v := nI 0) hx hb hr (by decide) (fun t ht hW => ⟨nI 0, rfl, by first | exact Or.inl rfl | exact Or.inr rfl, ht⟩) (fun _ h9 => by cases h9) dX3_beginsBlock_43
      · skip
        refine lv_iconst (v := nI 1) hx hb dX3_beginsBlock_38 (by decide) ?_
        refine lv_goto (tgt := 43) hx hb dX3_beginsBlock_39 (by decide) ?_
        exact W.zret (v := nI 1) hx hb hr (by decide) (fun t ht hW => ⟨nI 1, rfl, by first | exact Or.inl rfl | exact Or.inr rfl, ht⟩) (fun _ h9 => by cases h9) dX3_beginsBlock_43
set_option maxHeartbeats 1000000 in
set_option maxRecDepth 100000 in
theorem mt_X3_countBlocks (l : Launch) (G : gG) (h : Nat → Nat) (w : oS) (nl : Nat) (hnl : w.1 5 = nI nl) (hnl120 : nl ≤ 120) : Met l yX3_countBlocks wsX3_countBlocks ({ frames := 1, cells := 0, slots := 0, locals := 21 }) (preR G (wv G h w) [.ref (h 0)]) (vp_Si (fun r : Int32 => True)) 0 0 (fun _ => False) := by
  refine Met.ofW (cc := cX3_countBlocks) (maxL := 3) (ret := (some .int)) (by decide) rfl ?_
  intro p e s m args below meth c s₁ B hml hv
  obtain ⟨ha, hP, hK, hN⟩ := hv
  subst ha
  have hx := B.exec
  have hb := B.bytes
  have hr := B.returns
  have hts := atoms_spec (ws := wsX3_countBlocks) B.pre
  have hown : s.vm.findClass RX3 = some m.cls := findClass_of_methodNamed B.named
  have hlocks := B.notSynchronized
  have hiX3 : ∀ w ∈ wsX30, w ∈ wsX3_countBlocks := fun w h9 => List.mem_cons_of_mem _ (List.mem_append_right _ (h9))
  have k28 := hts (.fieldLink RX3 28 "WovenHistory$Weave" "lines" "I") (List.mem_of_getElem? (i := 1) rfl)
  have hl := lv_entry ([.ref (h 0)]) (n := 3) (Nat.le_of_ble_eq_true rfl)
  rw [lg_entry_eq]
  generalize (lg_sl ([.ref (h 0)]) ++ List.replicate (3 - (lg_sl ([.ref (h 0)])).length) Slot.unset).toArray = ls at hl ⊢
  have hl : lv_has ls 3 [(0, .ref (h 0))] := hl
  refine lv_iconst (v := nI 0) hx hb dX3_countBlocks_0 (by decide) ?_
  refine lv_istore_n (lv' := [(1, .int (nI 0)), (0, .ref (h 0))]) hx hb dX3_countBlocks_1 rfl hl (by decide) rfl (fun ls hl => ?_)
  refine lv_iconst (v := nI 0) hx hb dX3_countBlocks_2 (by decide) ?_
  refine lv_istore_n (lv' := [(2, .int (nI 0)), (1, .int (nI 0)), (0, .ref (h 0))]) hx hb dX3_countBlocks_3 rfl hl (by decide) rfl (fun ls hl => ?_)
  have LP4 : ∀ (n4m : Nat), ∀ (k : Nat) (y : Int32) (hk : k ≤ nl), (nl - k < n4m) → ∀ (ls : Array Slot), lv_has ls 3 [(0, .ref (h 0)), (1, .int y), (2, .int (nI k))] → W p l e (headSpec wsX3_countBlocks ({ frames := 1, cells := 0, slots := 0, locals := 21 })).room s m ([.ref (h 0)] : List Value).toArray below meth c s.heap [] 0 0 (MQ below (vp_Si (fun r : Int32 => True)) ([.ref (h 0)] : List Value).toArray s 0 0 (fun _ => False)) (F0 m 4 ls []) := by
    intro n4m
    induction n4m with
    | zero => intro k y hk hmu ls hl; exact absurd hmu (Nat.not_lt_zero _)
    | succ n4m ih4 =>
      intro k y hk hmu ls hl
      refine lv_iload_n hx hb dX3_countBlocks_4 rfl (lv_at hl 2 rfl) ?_
      refine lv_aload_n hx hb dX3_countBlocks_5 rfl (lv_at hl 0 rfl) ?_
      refine va_get (D := gD G) (ci := 3) (v := .int (w.1 5)) (C := RX3) (T := TX3) (N := 9) hx hb hts hiX3 hown hK hP 0 rfl rfl 5 (by decide) k28 (fun _ h9 => h9) rfl dX3_countBlocks_6 ?_
      refine topE hnl ?_
      refine lv_icmp_ge (tgt := 29) hx hb dX3_countBlocks_9 (by decide) (fun c9 => ?_) (fun c9 => ?_)
      · skip
        have n9 : nl ≤ k := (nI_leI (a := nl) (b := k) (by omega) (by omega)).mp c9
        refine lv_iload_n hx hb dX3_countBlocks_29 rfl (lv_at hl 1 rfl) ?_
        exact W.iret (v := y) hx hb hr (fun t ht hW => ⟨y, rfl, by first | rfl | trivial | omega | assumption, ht⟩) (fun _ h9 => by cases h9) dX3_countBlocks_30
      · skip
        have n9 : ¬ (nl ≤ k) := fun q9 => c9 ((nI_leI (a := nl) (b := k) (by omega) (by omega)).mpr q9)
        refine lv_aload_n hx hb dX3_countBlocks_12 rfl (lv_at hl 0 rfl) ?_
        refine lv_iload_n hx hb dX3_countBlocks_13 rfl (lv_at hl 2 rfl) ?_
        refine cRi (w := wv G h w) (As := [.int (nI k)]) (rest := []) ⟨hx, hb, hml, hown, hts⟩ (mt_X3_beginsBlock l G h w k (by first | assumption | omega)) (cwV 1 hts gX3_countBlocks_X3_beginsBlock rfl rfl rfl ⟨rfl, hd_X3_beginsBlock⟩ ⟨Nat.le_of_ble_eq_true rfl, Nat.le_of_ble_eq_true rfl⟩) hK hN hP 0 3 rfl rfl rfl hl.1 rfl (Nat.le_of_ble_eq_true rfl) ⟨Nat.zero_le _, Nat.zero_le _⟩ dX3_countBlocks_14 (fun r14 hw14 => ?_)
        rcases hw14 with rfl | rfl
        · skip
          refine lv_if_eq (tgt := 23) hx hb dX3_countBlocks_17 (by decide) (fun c9 => absurd c9 (by decide)) (fun _ => ?_)
          refine lv_iinc (v := y + 1) (lv' := [(1, .int (y + 1)), (0, .ref (h 0)), (2, .int (nI k))]) hx hb dX3_countBlocks_20 hl (k := 1) rfl (rfl) (by decide) rfl (fun ls hl => ?_)
          refine lv_iinc (v := nI (k + 1)) (lv' := [(2, .int (nI (k + 1))), (1, .int (y + 1)), (0, .ref (h 0))]) hx hb dX3_countBlocks_23 hl (k := 2) rfl (nI_1 k) (by decide) rfl (fun ls hl => ?_)
          refine lv_goto (tgt := 4) hx hb dX3_countBlocks_26 (by decide) ?_
          exact ih4 (k + 1) (y + 1) (by first | assumption | omega) (by omega) ls (lv_sub hl [2, 1, 0] rfl)
        · skip
          refine lv_if_eq (tgt := 23) hx hb dX3_countBlocks_17 (by decide) (fun _ => ?_) (fun c9 => absurd (by decide) c9)
          refine lv_iinc (v := nI (k + 1)) (lv' := [(2, .int (nI (k + 1))), (0, .ref (h 0)), (1, .int y)]) hx hb dX3_countBlocks_23 hl (k := 2) rfl (nI_1 k) (by decide) rfl (fun ls hl => ?_)
          refine lv_goto (tgt := 4) hx hb dX3_countBlocks_26 (by decide) ?_
          exact ih4 (k + 1) y (by first | assumption | omega) (by omega) ls (lv_sub hl [1, 2, 0] rfl)
  exact LP4 (nl - 0 + 1) 0 (nI 0) (by first | assumption | omega) (Nat.lt_succ_self _) ls (lv_sub hl [2, 1, 0] rfl)
set_option maxHeartbeats 1000000 in
set_option maxRecDepth 100000 in
theorem mt_X3_findBlock (l : Launch) (G : gG) (h : Nat → Nat) (w : oS) (nl : Nat) (x : Int32) (hnl : w.1 5 = nI nl) (hnl120 : nl ≤ 120) : Met l yX3_findBlock wsX3_findBlock ({ frames := 1, cells := 0, slots := 0, locals := 21 }) (preR G (wv G h w) [.ref (h 0), .int x]) (vp_Si (fun r : Int32 => (∃ i, i < nl ∧ r = nI i) ∨ r = -1)) 0 0 (fun _ => False) := by
  refine Met.ofW (cc := cX3_findBlock) (maxL := 4) (ret := (some .int)) (by decide) rfl ?_
  intro p e s m args below meth c s₁ B hml hv
  obtain ⟨ha, hP, hK, hN⟩ := hv
  subst ha
  have hx := B.exec
  have hb := B.bytes
  have hr := B.returns
  have hts := atoms_spec (ws := wsX3_findBlock) B.pre
  have hown : s.vm.findClass RX3 = some m.cls := findClass_of_methodNamed B.named
  have hlocks := B.notSynchronized
  have hiX3 : ∀ w ∈ wsX30, w ∈ wsX3_findBlock := fun w h9 => List.mem_cons_of_mem _ (List.mem_append_right _ (h9))
  have k28 := hts (.fieldLink RX3 28 "WovenHistory$Weave" "lines" "I") (List.mem_of_getElem? (i := 1) rfl)
  have hl := lv_entry ([.ref (h 0), .int x]) (n := 4) (Nat.le_of_ble_eq_true rfl)
  rw [lg_entry_eq]
  generalize (lg_sl ([.ref (h 0), .int x]) ++ List.replicate (4 - (lg_sl ([.ref (h 0), .int x])).length) Slot.unset).toArray = ls at hl ⊢
  have hl : lv_has ls 4 [(0, .ref (h 0)), (1, .int x)] := hl
  refine lv_iload_n hx hb dX3_findBlock_0 rfl (lv_at hl 1 rfl) ?_
  refine lv_istore_n (lv' := [(2, .int x), (0, .ref (h 0)), (1, .int x)]) hx hb dX3_findBlock_1 rfl hl (by decide) rfl (fun ls hl => ?_)
  refine lv_iconst (v := nI 0) hx hb dX3_findBlock_2 (by decide) ?_
  refine lv_istore_n (lv' := [(3, .int (nI 0)), (2, .int x), (0, .ref (h 0)), (1, .int x)]) hx hb dX3_findBlock_3 rfl hl (by decide) rfl (fun ls hl => ?_)
  have LP4 : ∀ (n4m : Nat), ∀ (k : Nat) (y : Int32) (hk : k ≤ nl), (nl - k < n4m) → ∀ (ls : Array Slot), lv_has ls 4 [(0, .ref (h 0)), (2, .int y), (3, .int (nI k))] → W p l e (headSpec wsX3_findBlock ({ frames := 1, cells := 0, slots := 0, locals := 21 })).room s m ([.ref (h 0), .int x] : List Value).toArray below meth c s.heap [] 0 0 (MQ below (vp_Si (fun r : Int32 => (∃ i, i < nl ∧ r = nI i) ∨ r = -1)) ([.ref (h 0), .int x] : List Value).toArray s 0 0 (fun _ => False)) (F0 m 4 ls []) := by
    intro n4m
    induction n4m with
    | zero => intro k y hk hmu ls hl; exact absurd hmu (Nat.not_lt_zero _)
    | succ n4m ih4 =>
      intro k y hk hmu ls hl
      refine lv_iload_n hx hb dX3_findBlock_4 rfl (lv_at hl 2 rfl) ?_
      refine lv_aload_n hx hb dX3_findBlock_5 rfl (lv_at hl 0 rfl) ?_
      refine va_get (D := gD G) (ci := 3) (v := .int (w.1 5)) (C := RX3) (T := TX3) (N := 9) hx hb hts hiX3 hown hK hP 0 rfl rfl 5 (by decide) k28 (fun _ h9 => h9) rfl dX3_findBlock_6 ?_
      refine topE hnl ?_
      refine lv_icmp_ge (tgt := 35) hx hb dX3_findBlock_9 (by decide) (fun c9 => ?_) (fun c9 => ?_)
      · skip
        have n9 : nl ≤ k := (nI_leI (a := nl) (b := k) (by omega) (by omega)).mp c9
        refine lv_iconst (v := (-1 : Int32)) hx hb dX3_findBlock_35 (by decide) ?_
        exact W.iret (v := (-1 : Int32)) hx hb hr (fun t ht hW => ⟨(-1 : Int32), rfl, Or.inr rfl, ht⟩) (fun _ h9 => by cases h9) dX3_findBlock_36
      · skip
        have n9 : ¬ (nl ≤ k) := fun q9 => c9 ((nI_leI (a := nl) (b := k) (by omega) (by omega)).mpr q9)
        refine lv_aload_n hx hb dX3_findBlock_12 rfl (lv_at hl 0 rfl) ?_
        refine lv_iload_n hx hb dX3_findBlock_13 rfl (lv_at hl 2 rfl) ?_
        refine cRi (w := wv G h w) (As := [.int (nI k)]) (rest := []) ⟨hx, hb, hml, hown, hts⟩ (mt_X3_beginsBlock l G h w k (by first | assumption | omega)) (cwV 1 hts gX3_findBlock_X3_beginsBlock rfl rfl rfl ⟨rfl, hd_X3_beginsBlock⟩ ⟨Nat.le_of_ble_eq_true rfl, Nat.le_of_ble_eq_true rfl⟩) hK hN hP 0 3 rfl rfl rfl hl.1 rfl (Nat.le_of_ble_eq_true rfl) ⟨Nat.zero_le _, Nat.zero_le _⟩ dX3_findBlock_14 (fun r14 hw14 => ?_)
        rcases hw14 with rfl | rfl
        · skip
          refine lv_if_eq (tgt := 29) hx hb dX3_findBlock_17 (by decide) (fun c9 => absurd c9 (by decide)) (fun _ => ?_)
          refine lv_iload_n hx hb dX3_findBlock_20 rfl (lv_at hl 1 rfl) ?_
          refine lv_if_ne (tgt := 26) hx hb dX3_findBlock_21 (by decide) (fun c21 => ?_) (fun c21 => ?_)
          · skip
            refine lv_iinc (v := y + (-1)) (lv' := [(2, .int (y + (-1))), (0, .ref (h 0)), (3, .int (nI k))]) hx hb dX3_findBlock_26 hl (k := 1) rfl (rfl) (by decide) rfl (fun ls hl => ?_)
            refine lv_iinc (v := nI (k + 1)) (lv' := [(3, .int (nI (k + 1))), (2, .int (y + (-1))), (0, .ref (h 0))]) hx hb dX3_findBlock_29 hl (k := 2) rfl (nI_1 k) (by decide) rfl (fun ls hl => ?_)
            refine lv_goto (tgt := 4) hx hb dX3_findBlock_32 (by decide) ?_
            exact ih4 (k + 1) (y + (-1)) (by first | assumption | omega) (by omega) ls (lv_sub hl [2, 1, 0] rfl)
          · skip
            refine lv_iload_n hx hb dX3_findBlock_24 rfl (lv_at hl 2 rfl) ?_
            exact W.iret (v := nI k) hx hb hr (fun t ht hW => ⟨nI k, rfl, Or.inl ⟨k, by omega, rfl⟩, ht⟩) (fun _ h9 => by cases h9) dX3_findBlock_25
        · skip
          refine lv_if_eq (tgt := 29) hx hb dX3_findBlock_17 (by decide) (fun _ => ?_) (fun c9 => absurd (by decide) c9)
          refine lv_iinc (v := nI (k + 1)) (lv' := [(3, .int (nI (k + 1))), (0, .ref (h 0)), (2, .int y)]) hx hb dX3_findBlock_29 hl (k := 2) rfl (nI_1 k) (by decide) rfl (fun ls hl => ?_)
          refine lv_goto (tgt := 4) hx hb dX3_findBlock_32 (by decide) ?_
          exact ih4 (k + 1) y (by first | assumption | omega) (by omega) ls (lv_sub hl [1, 2, 0] rfl)
  exact LP4 (nl - 0 + 1) 0 x (by first | assumption | omega) (Nat.lt_succ_self _) ls (lv_sub hl [2, 1, 0] rfl)
set_option maxHeartbeats 1000000 in
set_option maxRecDepth 100000 in
theorem mt_X3_blockLength (l : Launch) (G : gG) (h : Nat → Nat) (w : oS) (nl : Nat) (i : Nat) (hnl : w.1 5 = nI nl) (hnl120 : nl ≤ 120) (hi : i < nl) : Met l yX3_blockLength wsX3_blockLength ({ frames := 1, cells := 0, slots := 0, locals := 21 }) (preR G (wv G h w) [.ref (h 0), .int (nI i)]) (vp_Si (fun r : Int32 => True)) 0 0 (fun _ => False) := by
  refine Met.ofW (cc := cX3_blockLength) (maxL := 4) (ret := (some .int)) (by decide) rfl ?_
  intro p e s m args below meth c s₁ B hml hv
  obtain ⟨ha, hP, hK, hN⟩ := hv
  subst ha
  have hx := B.exec
  have hb := B.bytes
  have hr := B.returns
  have hts := atoms_spec (ws := wsX3_blockLength) B.pre
  have hown : s.vm.findClass RX3 = some m.cls := findClass_of_methodNamed B.named
  have hlocks := B.notSynchronized
  have hiX3 : ∀ w ∈ wsX30, w ∈ wsX3_blockLength := fun w h9 => List.mem_cons_of_mem _ (List.mem_append_right _ (h9))
  have k28 := hts (.fieldLink RX3 28 "WovenHistory$Weave" "lines" "I") (List.mem_of_getElem? (i := 1) rfl)
  have hl := lv_entry ([.ref (h 0), .int (nI i)]) (n := 4) (Nat.le_of_ble_eq_true rfl)
  rw [lg_entry_eq]
  generalize (lg_sl ([.ref (h 0), .int (nI i)]) ++ List.replicate (4 - (lg_sl ([.ref (h 0), .int (nI i)])).length) Slot.unset).toArray = ls at hl ⊢
  have hl : lv_has ls 4 [(0, .ref (h 0)), (1, .int (nI i))] := hl
  refine lv_iload_n hx hb dX3_blockLength_0 rfl (lv_at hl 1 rfl) ?_
  refine lv_iconst (v := nI 1) hx hb dX3_blockLength_1 (by decide) ?_
  refine lv_iadd hx hb dX3_blockLength_2 ?_
  refine topE (y := nI (i + 1)) (nI_add i 1) ?_
  refine lv_istore_n (lv' := [(2, .int (nI (i + 1))), (0, .ref (h 0)), (1, .int (nI i))]) hx hb dX3_blockLength_3 rfl hl (by decide) rfl (fun ls hl => ?_)
  refine lv_iload_n hx hb dX3_blockLength_4 rfl (lv_at hl 2 rfl) ?_
  refine lv_iconst (v := nI 1) hx hb dX3_blockLength_5 (by decide) ?_
  refine lv_iadd hx hb dX3_blockLength_6 ?_
  refine topE (y := nI (i + 1)) (nI_add i 1) ?_
  refine lv_istore_n (lv' := [(3, .int (nI (i + 1))), (2, .int (nI (i + 1))), (0, .ref (h 0)), (1, .int (nI i))]) hx hb dX3_blockLength_7 rfl hl (by decide) rfl (fun ls hl => ?_)
  have LP8 : ∀ (n8m : Nat), ∀ (k : Nat) (y : Int32) (hk : k ≤ nl), (nl - k < n8m) → ∀ (ls : Array Slot), lv_has ls 4 [(0, .ref (h 0)), (1, .int (nI i)), (2, .int y), (3, .int (nI k))] → W p l e (headSpec wsX3_blockLength ({ frames := 1, cells := 0, slots := 0, locals := 21 })).room s m ([.ref (h 0), .int (nI i)] : List Value).toArray below meth c s.heap [] 0 0 (MQ below (vp_Si (fun r : Int32 => True)) ([.ref (h 0), .int (nI i)] : List Value).toArray s 0 0 (fun _ => False)) (F0 m 8 ls []) := by
    intro n8m
    induction n8m with
    | zero => intro k y hk hmu ls hl; exact absurd hmu (Nat.not_lt_zero _)
    | succ n8m ih8 =>
      intro k y hk hmu ls hl
      refine lv_iload_n hx hb dX3_blockLength_8 rfl (lv_at hl 3 rfl) ?_
      refine lv_aload_n hx hb dX3_blockLength_9 rfl (lv_at hl 0 rfl) ?_
      refine va_get (D := gD G) (ci := 3) (v := .int (w.1 5)) (C := RX3) (T := TX3) (N := 9) hx hb hts hiX3 hown hK hP 0 rfl rfl 5 (by decide) k28 (fun _ h9 => h9) rfl dX3_blockLength_10 ?_
      refine topE hnl ?_
      refine lv_icmp_ge (tgt := 34) hx hb dX3_blockLength_13 (by decide) (fun c13 => ?_) (fun c13 => ?_)
      · skip
        have n13 : nl ≤ k := (nI_leI (a := nl) (b := k) (by omega) (by omega)).mp c13
        refine lv_iload_n hx hb dX3_blockLength_34 rfl (lv_at hl 2 rfl) ?_
        refine lv_iload_n hx hb dX3_blockLength_35 rfl (lv_at hl 1 rfl) ?_
        refine lv_isub hx hb dX3_blockLength_36 ?_
        exact W.iret (v := y - (nI i)) hx hb hr (fun t ht hW => ⟨y - (nI i), rfl, by first | rfl | trivial | omega | assumption, ht⟩) (fun _ h9 => by cases h9) dX3_blockLength_37
      · skip
        have n13 : ¬ (nl ≤ k) := fun q9 => c13 ((nI_leI (a := nl) (b := k) (by omega) (by omega)).mpr q9)
        refine lv_aload_n hx hb dX3_blockLength_16 rfl (lv_at hl 0 rfl) ?_
        refine lv_iload_n hx hb dX3_blockLength_17 rfl (lv_at hl 3 rfl) ?_
        refine cRi (w := wv G h w) (As := [.int (nI k)]) (rest := []) ⟨hx, hb, hml, hown, hts⟩ (mt_X3_beginsBlock l G h w k (by first | assumption | omega)) (cwV 1 hts gX3_blockLength_X3_beginsBlock rfl rfl rfl ⟨rfl, hd_X3_beginsBlock⟩ ⟨Nat.le_of_ble_eq_true rfl, Nat.le_of_ble_eq_true rfl⟩) hK hN hP 0 3 rfl rfl rfl hl.1 rfl (Nat.le_of_ble_eq_true rfl) ⟨Nat.zero_le _, Nat.zero_le _⟩ dX3_blockLength_18 (fun r18 hw18 => ?_)
        rcases hw18 with rfl | rfl
        · skip
          refine lv_if_ne (tgt := 34) hx hb dX3_blockLength_21 (by decide) (fun _ => ?_) (fun c9 => absurd c9 (by decide))
          refine lv_iload_n hx hb dX3_blockLength_34 rfl (lv_at hl 2 rfl) ?_
          refine lv_iload_n hx hb dX3_blockLength_35 rfl (lv_at hl 1 rfl) ?_
          refine lv_isub hx hb dX3_blockLength_36 ?_
          exact W.iret (v := y - (nI i)) hx hb hr (fun t ht hW => ⟨y - (nI i), rfl, by first | rfl | trivial | omega | assumption, ht⟩) (fun _ h9 => by cases h9) dX3_blockLength_37
        · skip
          refine lv_if_ne (tgt := 34) hx hb dX3_blockLength_21 (by decide) (fun c9 => absurd (by decide) c9) (fun _ => ?_)
          refine lv_iload_n hx hb dX3_blockLength_24 rfl (lv_at hl 3 rfl) ?_
          refine lv_iconst (v := nI 1) hx hb dX3_blockLength_25 (by decide) ?_
          refine lv_iadd hx hb dX3_blockLength_26 ?_
          refine topE (y := nI (k + 1)) (nI_add k 1) ?_
          refine lv_istore_n (lv' := [(2, .int (nI (k + 1))), (0, .ref (h 0)), (1, .int (nI i)), (3, .int (nI k))]) hx hb dX3_blockLength_27 rfl hl (by decide) rfl (fun ls hl => ?_)
          refine lv_iinc (v := nI (k + 1)) (lv' := [(3, .int (nI (k + 1))), (2, .int (nI (k + 1))), (0, .ref (h 0)), (1, .int (nI i))]) hx hb dX3_blockLength_28 hl (k := 3) rfl (nI_1 k) (by decide) rfl (fun ls hl => ?_)
          refine lv_goto (tgt := 8) hx hb dX3_blockLength_31 (by decide) ?_
          exact ih8 (k + 1) (nI (k + 1)) (by first | assumption | omega) (by omega) ls (lv_sub hl [2, 3, 1, 0] rfl)
  exact LP8 (nl - (i + 1) + 1) (i + 1) (nI (i + 1)) (by first | assumption | omega) (Nat.lt_succ_self _) ls (lv_sub hl [2, 3, 1, 0] rfl)
