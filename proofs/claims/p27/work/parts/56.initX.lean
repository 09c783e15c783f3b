set_option maxHeartbeats 4000000 in
set_option maxRecDepth 100000 in
theorem in_X4 (l : Launch) (G : gG) (sz b : Nat) : Met l yX4_init wsX4_init ({ frames := 3, cells := 54, slots := 2846, locals := 60 }) (preI G [(b, .inr (4, [.null, .null, .null, .null, .null, .null, .null, .int 0, .int 0]))] sz [.ref b]) (va_Qv (fun (v : Nat → Nat) => v 0 = b) (fun v t => PP G (xw G v x0 o0 o0 o0 o0 rd0 o0 z0 jj0 1) t.heap ∧ va_D (va_A [(b, .inr (4, [.null, .null, .null, .null, .null, .null, .null, .int 0, .int 0]))] sz) (xw G v x0 o0 o0 o0 o0 rd0 o0 z0 jj0 1)) (va_A [(b, .inr (4, [.null, .null, .null, .null, .null, .null, .null, .int 0, .int 0]))] sz)) 54 2846 (va_A [(b, .inr (4, [.null, .null, .null, .null, .null, .null, .null, .int 0, .int 0]))] sz) := by
  refine Met.ofW (cc := cX4_init) (maxL := 2) (ret := none) (by decide) rfl ?_
  intro p e s m args below meth c s₁ B hml hv
  obtain ⟨ha, hsz, hP, hK, hAO, hD0⟩ := hv
  subst ha
  have hx := B.exec
  have hb := B.bytes
  have hr := B.returns
  have hts := atoms_spec (ws := wsX4_init) B.pre
  have hown : s.vm.findClass RX4 = some m.cls := findClass_of_methodNamed B.named
  have hlocks := B.notSynchronized
  have hin : meth.name = "<init>" := (name_of_methodNamed B.named B.method).1
  subst hsz
  have hD := hD0.self (sz := s.heap.size)
  generalize hAe : va_A [(b, .inr (4, [.null, .null, .null, .null, .null, .null, .null, .int 0, .int 0]))] s.heap.size = A at hD ⊢
  have hA : ∀ q : Nat, s.heap.size ≤ q → A q := fun q h => by rw [← hAe]; exact Or.inr h
  clear hAe hD0
  have hS : va_S A s.heap s.heap [] := va_S.rf
  have hiX0 : ∀ w ∈ wsX00, w ∈ wsX4_init := by decide +kernel
  have hiX1 : ∀ w ∈ wsX10, w ∈ wsX4_init := by decide +kernel
  have hiX2 : ∀ w ∈ wsX20, w ∈ wsX4_init := by decide +kernel
  have hiX3 : ∀ w ∈ wsX30, w ∈ wsX4_init := by decide +kernel
  have hiX4 : ∀ w ∈ wsX40, w ∈ wsX4_init := by decide +kernel
  have k10 := hts (.fieldLink RX4 10 "WovenHistory" "now" "LWovenHistory$Weave;") (List.mem_of_getElem? (i := 7) rfl)
  have k16 := hts (.fieldLink RX4 16 "WovenHistory" "aheadOfOpen" "LWovenHistory$Weave;") (List.mem_of_getElem? (i := 8) rfl)
  have k19 := hts (.fieldLink RX4 19 "WovenHistory" "images" "[LWovenHistory$Weave;") (List.mem_of_getElem? (i := 9) rfl)
  have k23 := hts (.fieldLink RX4 23 "WovenHistory" "kept" "[Z") (List.mem_of_getElem? (i := 11) rfl)
  have k30 := hts (.fieldLink RX4 30 "WovenHistory" "reader" "LWovenHistory$Reader;") (List.mem_of_getElem? (i := 15) rfl)
  have k37 := hts (.fieldLink RX4 37 "WovenHistory" "sheets" "LWovenHistory$Sheets;") (List.mem_of_getElem? (i := 19) rfl)
  have k44 := hts (.fieldLink RX4 44 "WovenHistory" "lots" "LWovenHistory$Lots;") (List.mem_of_getElem? (i := 23) rfl)
  have k48 := hts (.fieldLink RX4 48 "WovenHistory" "opened" "Z") (List.mem_of_getElem? (i := 24) rfl)
  have k52 := hts (.fieldLink RX4 52 "WovenHistory" "latestFaultAt" "I") (List.mem_of_getElem? (i := 25) rfl)
  have hl := lv_entry ([.ref b]) (n := 2) (Nat.le_of_ble_eq_true rfl)
  rw [lg_entry_eq]
  generalize (lg_sl ([.ref b]) ++ List.replicate (2 - (lg_sl ([.ref b])).length) Slot.unset).toArray = ls at hl ⊢
  have hl : lv_has ls 2 [(0, .ref b)] := hl
  refine lv_aload_n hx hb dX4_init_0 rfl (lv_at hl 0 rfl) ?_
  refine W.objInit hx hb hown (hts (.methodLink RX4 1 objectInit) (List.mem_of_getElem? (i := 1) rfl)) (hts (.instanceMethod objectInit) (List.mem_of_getElem? (i := 2) rfl)) (hts (.code objectInit ⟨#[0xb1]⟩ 1 none) (List.mem_of_getElem? (i := 3) rfl)) rfl (by rw [hml]; exact hl.1) rfl dX4_init_1 (Nat.le_of_ble_eq_true rfl) (Nat.le_of_ble_eq_true rfl) ?_
  refine W.eq (g2 := F0 m 4 ls []) rfl ?_
  refine lv_aload_n hx hb dX4_init_4 rfl (lv_at hl 0 rfl) ?_
  refine va_new (ci := 3) (fs := [.int 0, .null, .null, .null, .null, .int 0, .null, .null, .null]) (C := RX3) (T := TX3) (N := 9) hx hb hts hiX3 tyX3 tyX3_ok hown (hts (.classLink RX4 7 RX3) (List.mem_of_getElem? (i := 4) rfl)) (hts (.instantiable RX3 9) (List.mem_of_getElem? (i := 5) rfl)) (hts (.initialized RX3) (List.mem_of_getElem? (i := 6) rfl)) hK hP hD hS hA rfl (fun j hj => by rcases (show j = 0 ∨ j = 1 ∨ j = 2 ∨ j = 3 ∨ j = 4 ∨ j = 5 ∨ j = 6 ∨ j = 7 ∨ j = 8 by omega) with rfl | rfl | rfl | rfl | rfl | rfl | rfl | rfl | rfl <;> rfl) (Nat.le_of_ble_eq_true rfl) (Nat.le_of_ble_eq_true rfl) dX4_init_5 (fun q1 H hP hD hS => ?_)
  have hP : PP G ([(b, .inr (4, [.null, .null, .null, .null, .null, .null, .null, .int 0, .int 0])), (q1, .inr (3, [.int 0, .null, .null, .null, .null, .int 0, .null, .null, .null]))]) H := hP
  have hD : va_D A ([(b, .inr (4, [.null, .null, .null, .null, .null, .null, .null, .int 0, .int 0])), (q1, .inr (3, [.int 0, .null, .null, .null, .null, .int 0, .null, .null, .null]))]) := hD
  refine lv_dup hx hb dX4_init_8 rfl ?_
  have hPc := hP.sub (ws' := [(q1, .inr (3, [.int 0, .null, .null, .null, .null, .int 0, .null, .null, .null]))]) [1] rfl
  have hDc := hD.sub (ws' := [(q1, .inr (3, [.int 0, .null, .null, .null, .null, .int 0, .null, .null, .null]))]) [1] (by decide) rfl
  have hFc := va_free (wc := [(q1, .inr (3, [.int 0, .null, .null, .null, .null, .int 0, .null, .null, .null]))]) hD hS hA [1] rfl
  refine va_callv (va_runI (As := []) (rest := [.ref q1, .ref b]) ⟨hx, hb, hml, hown, hts⟩ (in_X3 l G H.size q1) (cwI 0 hts gX4_init_X3_init rfl rfl rfl (hts (.initialized RX3) (List.mem_of_getElem? (i := 6) rfl)) (hts (.methodLink RX4 9 yX3_init) (List.mem_of_getElem? (i := 26) rfl)) (hts (.instanceMethod yX3_init) (List.mem_of_getElem? (i := 27) rfl)) rfl (by decide +kernel) ⟨Nat.le_of_ble_eq_true rfl, Nat.le_of_ble_eq_true rfl⟩) ⟨preI_blind, fun U hU hW => ⟨rfl, by rw [hU], by rw [hU]; exact hPc, va_K.moved hW.alike hK, hAO.moved hW.alike, hDc.weaken (fun _ _ _ _ => trivial)⟩⟩ rfl rfl hl.1 rfl (lv_room (Nat.le_of_ble_eq_true rfl)) dX4_init_9 ⟨Nat.le_of_ble_eq_true rfl, Nat.le_of_ble_eq_true rfl⟩) hS (fun q _ h => hFc q h) hFc (fun f2 t H1 locs ht hvm hw hB hz1 hk1 hS => ?_)
  obtain ⟨hP1, hD1⟩ := hB
  rw [ht] at hP1
  obtain ⟨hP2, hD2⟩ := va_join (wr := [(b, .inr (4, [.null, .null, .null, .null, .null, .null, .null, .int 0, .int 0]))]) (w1 := (wv G f2 o0)) hP hD [1] [0] rfl rfl (by decide) (by decide) hk1 hFc hP1 hD1
  clear hPc hDc hFc hP1 hD1 hk1 hz1 hvm hP hD
  generalize H1 = H at hP2 hS ⊢
  subst hw
  have hP := hP2
  have hD := hD2
  clear hP2 hD2
  have hP : PP G ([(b, .inr (4, [.null, .null, .null, .null, .null, .null, .null, .int 0, .int 0]))] ++ (wv G f2 o0)) H := hP
  have hD : va_D A ([(b, .inr (4, [.null, .null, .null, .null, .null, .null, .null, .int 0, .int 0]))] ++ (wv G f2 o0)) := hD
  refine va_putF (D := gD G) (ci := 4) (v := .ref (f2 0)) (ty := .object "WovenHistory$Weave") (C := RX4) (T := TX4) (N := 9) hx hb hts hiX4 tyX4 tyX4_ok nmX4 hown hK hP hD hS 0 rfl rfl 0 (by decide) k10 (fun _ h9 => h9) rfl hin rfl (by decide +kernel) rfl rfl (Nat.le_of_ble_eq_true rfl) dX4_init_12 (fun H locs hP hD hS => ?_)
  have hP : PP G ([(b, .inr (4, [.ref (f2 0), .null, .null, .null, .null, .null, .null, .int 0, .int 0]))] ++ (wv G f2 o0)) H := hP
  have hD : va_D A ([(b, .inr (4, [.ref (f2 0), .null, .null, .null, .null, .null, .null, .int 0, .int 0]))] ++ (wv G f2 o0)) := hD
  refine lv_aload_n hx hb dX4_init_15 rfl (lv_at hl 0 rfl) ?_
  refine va_new (ci := 3) (fs := [.int 0, .null, .null, .null, .null, .int 0, .null, .null, .null]) (C := RX3) (T := TX3) (N := 9) hx hb hts hiX3 tyX3 tyX3_ok hown (hts (.classLink RX4 7 RX3) (List.mem_of_getElem? (i := 4) rfl)) (hts (.instantiable RX3 9) (List.mem_of_getElem? (i := 5) rfl)) (hts (.initialized RX3) (List.mem_of_getElem? (i := 6) rfl)) hK hP hD hS hA rfl (fun j hj => by rcases (show j = 0 ∨ j = 1 ∨ j = 2 ∨ j = 3 ∨ j = 4 ∨ j = 5 ∨ j = 6 ∨ j = 7 ∨ j = 8 by omega) with rfl | rfl | rfl | rfl | rfl | rfl | rfl | rfl | rfl <;> rfl) (Nat.le_of_ble_eq_true rfl) (Nat.le_of_ble_eq_true rfl) dX4_init_16 (fun q3 H hP hD hS => ?_)
  have hP : PP G ([(b, .inr (4, [.ref (f2 0), .null, .null, .null, .null, .null, .null, .int 0, .int 0]))] ++ (wv G f2 o0) ++ [(q3, .inr (3, [.int 0, .null, .null, .null, .null, .int 0, .null, .null, .null]))]) H := hP
  have hD : va_D A ([(b, .inr (4, [.ref (f2 0), .null, .null, .null, .null, .null, .null, .int 0, .int 0]))] ++ (wv G f2 o0) ++ [(q3, .inr (3, [.int 0, .null, .null, .null, .null, .int 0, .null, .null, .null]))]) := hD
  refine lv_dup hx hb dX4_init_19 rfl ?_
  have hPc := hP.sub (ws' := [(q3, .inr (3, [.int 0, .null, .null, .null, .null, .int 0, .null, .null, .null]))]) [9] rfl
  have hDc := hD.sub (ws' := [(q3, .inr (3, [.int 0, .null, .null, .null, .null, .int 0, .null, .null, .null]))]) [9] (by decide) rfl
  have hFc := va_free (wc := [(q3, .inr (3, [.int 0, .null, .null, .null, .null, .int 0, .null, .null, .null]))]) hD hS hA [9] rfl
  refine va_callv (va_runI (As := []) (rest := [.ref q3, .ref b]) ⟨hx, hb, hml, hown, hts⟩ (in_X3 l G H.size q3) (cwI 0 hts gX4_init_X3_init rfl rfl rfl (hts (.initialized RX3) (List.mem_of_getElem? (i := 6) rfl)) (hts (.methodLink RX4 9 yX3_init) (List.mem_of_getElem? (i := 26) rfl)) (hts (.instanceMethod yX3_init) (List.mem_of_getElem? (i := 27) rfl)) rfl (by decide +kernel) ⟨Nat.le_of_ble_eq_true rfl, Nat.le_of_ble_eq_true rfl⟩) ⟨preI_blind, fun U hU hW => ⟨rfl, by rw [hU], by rw [hU]; exact hPc, va_K.moved hW.alike hK, hAO.moved hW.alike, hDc.weaken (fun _ _ _ _ => trivial)⟩⟩ rfl rfl hl.1 rfl (lv_room (Nat.le_of_ble_eq_true rfl)) dX4_init_20 ⟨Nat.le_of_ble_eq_true rfl, Nat.le_of_ble_eq_true rfl⟩) hS (fun q _ h => hFc q h) hFc (fun f4 t H1 locs ht hvm hw hB hz1 hk1 hS => ?_)
  obtain ⟨hP1, hD1⟩ := hB
  rw [ht] at hP1
  obtain ⟨hP2, hD2⟩ := va_join (wr := [(b, .inr (4, [.ref (f2 0), .null, .null, .null, .null, .null, .null, .int 0, .int 0]))] ++ (wv G f2 o0)) (w1 := (wv G f4 o0)) hP hD [9] [0, 1, 2, 3, 4, 5, 6, 7, 8] rfl rfl (by decide) (by decide) hk1 hFc hP1 hD1
  clear hPc hDc hFc hP1 hD1 hk1 hz1 hvm hP hD
  generalize H1 = H at hP2 hS ⊢
  subst hw
  have hP := hP2
  have hD := hD2
  clear hP2 hD2
  have hP : PP G ([(b, .inr (4, [.ref (f2 0), .null, .null, .null, .null, .null, .null, .int 0, .int 0]))] ++ (wv G f2 o0) ++ (wv G f4 o0)) H := hP
  have hD : va_D A ([(b, .inr (4, [.ref (f2 0), .null, .null, .null, .null, .null, .null, .int 0, .int 0]))] ++ (wv G f2 o0) ++ (wv G f4 o0)) := hD
  refine va_putF (D := gD G) (ci := 4) (v := .ref (f4 0)) (ty := .object "WovenHistory$Weave") (C := RX4) (T := TX4) (N := 9) hx hb hts hiX4 tyX4 tyX4_ok nmX4 hown hK hP hD hS 0 rfl rfl 1 (by decide) k16 (fun _ h9 => h9) rfl hin rfl (by decide +kernel) rfl rfl (Nat.le_of_ble_eq_true rfl) dX4_init_23 (fun H locs hP hD hS => ?_)
  have hP : PP G ([(b, .inr (4, [.ref (f2 0), .ref (f4 0), .null, .null, .null, .null, .null, .int 0, .int 0]))] ++ (wv G f2 o0) ++ (wv G f4 o0)) H := hP
  have hD : va_D A ([(b, .inr (4, [.ref (f2 0), .ref (f4 0), .null, .null, .null, .null, .null, .int 0, .int 0]))] ++ (wv G f2 o0) ++ (wv G f4 o0)) := hD
  refine lv_aload_n hx hb dX4_init_26 rfl (lv_at hl 0 rfl) ?_
  refine lv_iconst (v := nI 2) hx hb dX4_init_27 (by decide) ?_
  refine newqW (N := 2) hx hb hown (hts (.classLink RX4 7 RX3) (List.mem_of_getElem? (i := 4) rfl)) hAO.1 hK hP hD hS hA rfl (Nat.le_of_ble_eq_true rfl) (Nat.le_of_ble_eq_true rfl) dX4_init_28 (fun q5 H hP hD hS => ?_)
  have hP : PP G ([(b, .inr (4, [.ref (f2 0), .ref (f4 0), .null, .null, .null, .null, .null, .int 0, .int 0]))] ++ (wv G f2 o0) ++ (wv G f4 o0) ++ [(q5, .inl (G.2.2 3, 2, .inr (.inr (.inr (.inr (fun _ => none))))))]) H := hP
  have hD : va_D A ([(b, .inr (4, [.ref (f2 0), .ref (f4 0), .null, .null, .null, .null, .null, .int 0, .int 0]))] ++ (wv G f2 o0) ++ (wv G f4 o0) ++ [(q5, .inl (G.2.2 3, 2, .inr (.inr (.inr (.inr (fun _ => none))))))]) := hD
  refine va_putF (D := gD G) (ci := 4) (v := .ref q5) (ty := .array (.object "WovenHistory$Weave")) (C := RX4) (T := TX4) (N := 9) hx hb hts hiX4 tyX4 tyX4_ok nmX4 hown hK hP hD hS 0 rfl rfl 2 (by decide) k19 (fun _ h9 => h9) rfl hin rfl (by decide +kernel) rfl rfl (Nat.le_of_ble_eq_true rfl) dX4_init_31 (fun H locs hP hD hS => ?_)
  have hP : PP G ([(b, .inr (4, [.ref (f2 0), .ref (f4 0), .ref q5, .null, .null, .null, .null, .int 0, .int 0]))] ++ (wv G f2 o0) ++ (wv G f4 o0) ++ [(q5, .inl (G.2.2 3, 2, .inr (.inr (.inr (.inr (fun _ => none))))))]) H := hP
  have hD : va_D A ([(b, .inr (4, [.ref (f2 0), .ref (f4 0), .ref q5, .null, .null, .null, .null, .int 0, .int 0]))] ++ (wv G f2 o0) ++ (wv G f4 o0) ++ [(q5, .inl (G.2.2 3, 2, .inr (.inr (.inr (.inr (fun _ => none))))))]) := hD
  refine lv_iconst (v := nI 0) hx hb dX4_init_34 (by decide) ?_
  refine lv_istore_n (lv' := [(1, .int (nI 0)), (0, .ref b)]) hx hb dX4_init_35 rfl hl (by decide) rfl (fun ls hl => ?_)
  refine lv_iload_n hx hb dX4_init_36 rfl (lv_at hl 0 rfl) ?_
  refine lv_iconst (v := nI 2) hx hb dX4_init_37 (by decide) ?_
  refine lv_icmp_ge (tgt := 60) hx hb dX4_init_38 (by decide) (fun c9 => absurd c9 (by decide)) (fun _ => ?_)
  refine lv_aload_n hx hb dX4_init_41 rfl (lv_at hl 1 rfl) ?_
  refine va_get (D := gD G) (ci := 4) (v := .ref q5) (C := RX4) (T := TX4) (N := 9) hx hb hts hiX4 hown hK hP 0 rfl rfl 2 (by decide) k19 (fun _ h9 => h9) rfl dX4_init_42 ?_
  refine lv_iload_n hx hb dX4_init_45 rfl (lv_at hl 0 rfl) ?_
  refine va_new (ci := 3) (fs := [.int 0, .null, .null, .null, .null, .int 0, .null, .null, .null]) (C := RX3) (T := TX3) (N := 9) hx hb hts hiX3 tyX3 tyX3_ok hown (hts (.classLink RX4 7 RX3) (List.mem_of_getElem? (i := 4) rfl)) (hts (.instantiable RX3 9) (List.mem_of_getElem? (i := 5) rfl)) (hts (.initialized RX3) (List.mem_of_getElem? (i := 6) rfl)) hK hP hD hS hA rfl (fun j hj => by rcases (show j = 0 ∨ j = 1 ∨ j = 2 ∨ j = 3 ∨ j = 4 ∨ j = 5 ∨ j = 6 ∨ j = 7 ∨ j = 8 by omega) with rfl | rfl | rfl | rfl | rfl | rfl | rfl | rfl | rfl <;> rfl) (Nat.le_of_ble_eq_true rfl) (Nat.le_of_ble_eq_true rfl) dX4_init_46 (fun q6 H hP hD hS => ?_)
  have hP : PP G ([(b, .inr (4, [.ref (f2 0), .ref (f4 0), .ref q5, .null, .null, .null, .null, .int 0, .int 0]))] ++ (wv G f2 o0) ++ (wv G f4 o0) ++ [(q5, .inl (G.2.2 3, 2, .inr (.inr (.inr (.inr (fun _ => none)))))), (q6, .inr (3, [.int 0, .null, .null, .null, .null, .int 0, .null, .null, .null]))]) H := hP
  have hD : va_D A ([(b, .inr (4, [.ref (f2 0), .ref (f4 0), .ref q5, .null, .null, .null, .null, .int 0, .int 0]))] ++ (wv G f2 o0) ++ (wv G f4 o0) ++ [(q5, .inl (G.2.2 3, 2, .inr (.inr (.inr (.inr (fun _ => none)))))), (q6, .inr (3, [.int 0, .null, .null, .null, .null, .int 0, .null, .null, .null]))]) := hD
  refine lv_dup hx hb dX4_init_49 rfl ?_
  have hPc := hP.sub (ws' := [(q6, .inr (3, [.int 0, .null, .null, .null, .null, .int 0, .null, .null, .null]))]) [18] rfl
  have hDc := hD.sub (ws' := [(q6, .inr (3, [.int 0, .null, .null, .null, .null, .int 0, .null, .null, .null]))]) [18] (by decide) rfl
  have hFc := va_free (wc := [(q6, .inr (3, [.int 0, .null, .null, .null, .null, .int 0, .null, .null, .null]))]) hD hS hA [18] rfl
  refine va_callv (va_runI (As := []) (rest := [.ref q6, .int (nI 0), .ref q5]) ⟨hx, hb, hml, hown, hts⟩ (in_X3 l G H.size q6) (cwI 0 hts gX4_init_X3_init rfl rfl rfl (hts (.initialized RX3) (List.mem_of_getElem? (i := 6) rfl)) (hts (.methodLink RX4 9 yX3_init) (List.mem_of_getElem? (i := 26) rfl)) (hts (.instanceMethod yX3_init) (List.mem_of_getElem? (i := 27) rfl)) rfl (by decide +kernel) ⟨Nat.le_of_ble_eq_true rfl, Nat.le_of_ble_eq_true rfl⟩) ⟨preI_blind, fun U hU hW => ⟨rfl, by rw [hU], by rw [hU]; exact hPc, va_K.moved hW.alike hK, hAO.moved hW.alike, hDc.weaken (fun _ _ _ _ => trivial)⟩⟩ rfl rfl hl.1 rfl (lv_room (Nat.le_of_ble_eq_true rfl)) dX4_init_50 ⟨Nat.le_of_ble_eq_true rfl, Nat.le_of_ble_eq_true rfl⟩) hS (fun q _ h => hFc q h) hFc (fun f7 t H1 locs ht hvm hw hB hz1 hk1 hS => ?_)
  obtain ⟨hP1, hD1⟩ := hB
  rw [ht] at hP1
  obtain ⟨hP2, hD2⟩ := va_join (wr := [(b, .inr (4, [.ref (f2 0), .ref (f4 0), .ref q5, .null, .null, .null, .null, .int 0, .int 0]))] ++ (wv G f2 o0) ++ (wv G f4 o0) ++ [(q5, .inl (G.2.2 3, 2, .inr (.inr (.inr (.inr (fun _ => none))))))]) (w1 := (wv G f7 o0)) hP hD [18] [0, 1, 2, 3, 4, 5, 6, 7, 8, 9, 10, 11, 12, 13, 14, 15, 16, 17] rfl rfl (by decide) (by decide) hk1 hFc hP1 hD1
  clear hPc hDc hFc hP1 hD1 hk1 hz1 hvm hP hD
  generalize H1 = H at hP2 hS ⊢
  subst hw
  have hP := hP2
  have hD := hD2
  clear hP2 hD2
  have hP : PP G ([(b, .inr (4, [.ref (f2 0), .ref (f4 0), .ref q5, .null, .null, .null, .null, .int 0, .int 0]))] ++ (wv G f2 o0) ++ (wv G f4 o0) ++ [(q5, .inl (G.2.2 3, 2, .inr (.inr (.inr (.inr (fun _ => none))))))] ++ (wv G f7 o0)) H := hP
  have hD : va_D A ([(b, .inr (4, [.ref (f2 0), .ref (f4 0), .ref q5, .null, .null, .null, .null, .int 0, .int 0]))] ++ (wv G f2 o0) ++ (wv G f4 o0) ++ [(q5, .inl (G.2.2 3, 2, .inr (.inr (.inr (.inr (fun _ => none))))))] ++ (wv G f7 o0)) := hD
  refine aastW (f := fun _ => none) (n := 2) (k := 0) hx hb hK hP hD hS 17 18 rfl rfl rfl (by decide) dX4_init_53 (fun H locs hP hD hS => ?_)
  have hP : PP G ([(b, .inr (4, [.ref (f2 0), .ref (f4 0), .ref q5, .null, .null, .null, .null, .int 0, .int 0]))] ++ (wv G f2 o0) ++ (wv G f4 o0) ++ [(q5, .inl (G.2.2 3, 2, .inr (.inr (.inr (.inr (va_up (fun _ => none) 0 (some (f7 0))))))))] ++ (wv G f7 o0)) H := hP
  have hD : va_D A ([(b, .inr (4, [.ref (f2 0), .ref (f4 0), .ref q5, .null, .null, .null, .null, .int 0, .int 0]))] ++ (wv G f2 o0) ++ (wv G f4 o0) ++ [(q5, .inl (G.2.2 3, 2, .inr (.inr (.inr (.inr (va_up (fun _ => none) 0 (some (f7 0))))))))] ++ (wv G f7 o0)) := hD
  refine lv_iinc (v := nI 1) (lv' := [(1, .int (nI 1)), (0, .ref b)]) hx hb dX4_init_54 hl (k := 0) rfl (by decide) (by decide) rfl (fun ls hl => ?_)
  refine lv_goto (tgt := 36) hx hb dX4_init_57 (by decide) ?_
  refine lv_iload_n hx hb dX4_init_36 rfl (lv_at hl 0 rfl) ?_
  refine lv_iconst (v := nI 2) hx hb dX4_init_37 (by decide) ?_
  refine lv_icmp_ge (tgt := 60) hx hb dX4_init_38 (by decide) (fun c9 => absurd c9 (by decide)) (fun _ => ?_)
  refine lv_aload_n hx hb dX4_init_41 rfl (lv_at hl 1 rfl) ?_
  refine va_get (D := gD G) (ci := 4) (v := .ref q5) (C := RX4) (T := TX4) (N := 9) hx hb hts hiX4 hown hK hP 0 rfl rfl 2 (by decide) k19 (fun _ h9 => h9) rfl dX4_init_42 ?_
  refine lv_iload_n hx hb dX4_init_45 rfl (lv_at hl 0 rfl) ?_
  refine va_new (ci := 3) (fs := [.int 0, .null, .null, .null, .null, .int 0, .null, .null, .null]) (C := RX3) (T := TX3) (N := 9) hx hb hts hiX3 tyX3 tyX3_ok hown (hts (.classLink RX4 7 RX3) (List.mem_of_getElem? (i := 4) rfl)) (hts (.instantiable RX3 9) (List.mem_of_getElem? (i := 5) rfl)) (hts (.initialized RX3) (List.mem_of_getElem? (i := 6) rfl)) hK hP hD hS hA rfl (fun j hj => by rcases (show j = 0 ∨ j = 1 ∨ j = 2 ∨ j = 3 ∨ j = 4 ∨ j = 5 ∨ j = 6 ∨ j = 7 ∨ j = 8 by omega) with rfl | rfl | rfl | rfl | rfl | rfl | rfl | rfl | rfl <;> rfl) (Nat.le_of_ble_eq_true rfl) (Nat.le_of_ble_eq_true rfl) dX4_init_46 (fun q8 H hP hD hS => ?_)
  have hP : PP G ([(b, .inr (4, [.ref (f2 0), .ref (f4 0), .ref q5, .null, .null, .null, .null, .int 0, .int 0]))] ++ (wv G f2 o0) ++ (wv G f4 o0) ++ [(q5, .inl (G.2.2 3, 2, .inr (.inr (.inr (.inr (va_up (fun _ => none) 0 (some (f7 0))))))))] ++ (wv G f7 o0) ++ [(q8, .inr (3, [.int 0, .null, .null, .null, .null, .int 0, .null, .null, .null]))]) H := hP
  have hD : va_D A ([(b, .inr (4, [.ref (f2 0), .ref (f4 0), .ref q5, .null, .null, .null, .null, .int 0, .int 0]))] ++ (wv G f2 o0) ++ (wv G f4 o0) ++ [(q5, .inl (G.2.2 3, 2, .inr (.inr (.inr (.inr (va_up (fun _ => none) 0 (some (f7 0))))))))] ++ (wv G f7 o0) ++ [(q8, .inr (3, [.int 0, .null, .null, .null, .null, .int 0, .null, .null, .null]))]) := hD
  refine lv_dup hx hb dX4_init_49 rfl ?_
  have hPc := hP.sub (ws' := [(q8, .inr (3, [.int 0, .null, .null, .null, .null, .int 0, .null, .null, .null]))]) [26] rfl
  have hDc := hD.sub (ws' := [(q8, .inr (3, [.int 0, .null, .null, .null, .null, .int 0, .null, .null, .null]))]) [26] (by decide) rfl
  have hFc := va_free (wc := [(q8, .inr (3, [.int 0, .null, .null, .null, .null, .int 0, .null, .null, .null]))]) hD hS hA [26] rfl
  refine va_callv (va_runI (As := []) (rest := [.ref q8, .int (nI 1), .ref q5]) ⟨hx, hb, hml, hown, hts⟩ (in_X3 l G H.size q8) (cwI 0 hts gX4_init_X3_init rfl rfl rfl (hts (.initialized RX3) (List.mem_of_getElem? (i := 6) rfl)) (hts (.methodLink RX4 9 yX3_init) (List.mem_of_getElem? (i := 26) rfl)) (hts (.instanceMethod yX3_init) (List.mem_of_getElem? (i := 27) rfl)) rfl (by decide +kernel) ⟨Nat.le_of_ble_eq_true rfl, Nat.le_of_ble_eq_true rfl⟩) ⟨preI_blind, fun U hU hW => ⟨rfl, by rw [hU], by rw [hU]; exact hPc, va_K.moved hW.alike hK, hAO.moved hW.alike, hDc.weaken (fun _ _ _ _ => trivial)⟩⟩ rfl rfl hl.1 rfl (lv_room (Nat.le_of_ble_eq_true rfl)) dX4_init_50 ⟨Nat.le_of_ble_eq_true rfl, Nat.le_of_ble_eq_true rfl⟩) hS (fun q _ h => hFc q h) hFc (fun f9 t H1 locs ht hvm hw hB hz1 hk1 hS => ?_)
  obtain ⟨hP1, hD1⟩ := hB
  rw [ht] at hP1
  obtain ⟨hP2, hD2⟩ := va_join (wr := [(b, .inr (4, [.ref (f2 0), .ref (f4 0), .ref q5, .null, .null, .null, .null, .int 0, .int 0]))] ++ (wv G f2 o0) ++ (wv G f4 o0) ++ [(q5, .inl (G.2.2 3, 2, .inr (.inr (.inr (.inr (va_up (fun _ => none) 0 (some (f7 0))))))))] ++ (wv G f7 o0)) (w1 := (wv G f9 o0)) hP hD [26] [0, 1, 2, 3, 4, 5, 6, 7, 8, 9, 10, 11, 12, 13, 14, 15, 16, 17, 18, 19, 20, 21, 22, 23, 24, 25] rfl rfl (by decide) (by decide) hk1 hFc hP1 hD1
  clear hPc hDc hFc hP1 hD1 hk1 hz1 hvm hP hD
  generalize H1 = H at hP2 hS ⊢
  subst hw
  have hP := hP2
  have hD := hD2
  clear hP2 hD2
  have hP : PP G ([(b, .inr (4, [.ref (f2 0), .ref (f4 0), .ref q5, .null, .null, .null, .null, .int 0, .int 0]))] ++ (wv G f2 o0) ++ (wv G f4 o0) ++ [(q5, .inl (G.2.2 3, 2, .inr (.inr (.inr (.inr (va_up (fun _ => none) 0 (some (f7 0))))))))] ++ (wv G f7 o0) ++ (wv G f9 o0)) H := hP
  have hD : va_D A ([(b, .inr (4, [.ref (f2 0), .ref (f4 0), .ref q5, .null, .null, .null, .null, .int 0, .int 0]))] ++ (wv G f2 o0) ++ (wv G f4 o0) ++ [(q5, .inl (G.2.2 3, 2, .inr (.inr (.inr (.inr (va_up (fun _ => none) 0 (some (f7 0))))))))] ++ (wv G f7 o0) ++ (wv G f9 o0)) := hD
  refine aastW (f := va_up (fun _ => none) 0 (some (f7 0))) (n := 2) (k := 1) hx hb hK hP hD hS 17 26 rfl rfl rfl (by decide) dX4_init_53 (fun H locs hP hD hS => ?_)
  have hP : PP G ([(b, .inr (4, [.ref (f2 0), .ref (f4 0), .ref q5, .null, .null, .null, .null, .int 0, .int 0]))] ++ (wv G f2 o0) ++ (wv G f4 o0) ++ [(q5, .inl (G.2.2 3, 2, .inr (.inr (.inr (.inr (va_up (va_up (fun _ => none) 0 (some (f7 0))) 1 (some (f9 0))))))))] ++ (wv G f7 o0) ++ (wv G f9 o0)) H := hP
  have hD : va_D A ([(b, .inr (4, [.ref (f2 0), .ref (f4 0), .ref q5, .null, .null, .null, .null, .int 0, .int 0]))] ++ (wv G f2 o0) ++ (wv G f4 o0) ++ [(q5, .inl (G.2.2 3, 2, .inr (.inr (.inr (.inr (va_up (va_up (fun _ => none) 0 (some (f7 0))) 1 (some (f9 0))))))))] ++ (wv G f7 o0) ++ (wv G f9 o0)) := hD
  refine lv_iinc (v := nI 2) (lv' := [(1, .int (nI 2)), (0, .ref b)]) hx hb dX4_init_54 hl (k := 0) rfl (by decide) (by decide) rfl (fun ls hl => ?_)
  refine lv_goto (tgt := 36) hx hb dX4_init_57 (by decide) ?_
  refine lv_iload_n hx hb dX4_init_36 rfl (lv_at hl 0 rfl) ?_
  refine lv_iconst (v := nI 2) hx hb dX4_init_37 (by decide) ?_
  refine lv_icmp_ge (tgt := 60) hx hb dX4_init_38 (by decide) (fun _ => ?_) (fun c9 => absurd (by decide) c9)
  refine lv_aload_n hx hb dX4_init_60 rfl (lv_at hl 1 rfl) ?_
  refine lv_iconst (v := nI 2) hx hb dX4_init_61 (by decide) ?_
  refine newaZ (N := 2) hx hb (hts (.arrayClass .boolean) (List.mem_of_getElem? (i := 10) rfl)) hK hP hD hS hA rfl (Nat.le_of_ble_eq_true rfl) (Nat.le_of_ble_eq_true rfl) dX4_init_62 (fun q10 H hP hD hS => ?_)
  have hP : PP G ([(b, .inr (4, [.ref (f2 0), .ref (f4 0), .ref q5, .null, .null, .null, .null, .int 0, .int 0]))] ++ (wv G f2 o0) ++ (wv G f4 o0) ++ [(q5, .inl (G.2.2 3, 2, .inr (.inr (.inr (.inr (va_up (va_up (fun _ => none) 0 (some (f7 0))) 1 (some (f9 0))))))))] ++ (wv G f7 o0) ++ (wv G f9 o0) ++ [(q10, .inl (G.2.2 2, 2, .inl (fun _ => 0)))]) H := hP
  have hD : va_D A ([(b, .inr (4, [.ref (f2 0), .ref (f4 0), .ref q5, .null, .null, .null, .null, .int 0, .int 0]))] ++ (wv G f2 o0) ++ (wv G f4 o0) ++ [(q5, .inl (G.2.2 3, 2, .inr (.inr (.inr (.inr (va_up (va_up (fun _ => none) 0 (some (f7 0))) 1 (some (f9 0))))))))] ++ (wv G f7 o0) ++ (wv G f9 o0) ++ [(q10, .inl (G.2.2 2, 2, .inl (fun _ => 0)))]) := hD
  refine va_putF (D := gD G) (ci := 4) (v := .ref q10) (ty := .array .boolean) (C := RX4) (T := TX4) (N := 9) hx hb hts hiX4 tyX4 tyX4_ok nmX4 hown hK hP hD hS 0 rfl rfl 3 (by decide) k23 (fun _ h9 => h9) rfl hin rfl (by decide +kernel) rfl rfl (Nat.le_of_ble_eq_true rfl) dX4_init_64 (fun H locs hP hD hS => ?_)
  have hP : PP G ([(b, .inr (4, [.ref (f2 0), .ref (f4 0), .ref q5, .ref q10, .null, .null, .null, .int 0, .int 0]))] ++ (wv G f2 o0) ++ (wv G f4 o0) ++ [(q5, .inl (G.2.2 3, 2, .inr (.inr (.inr (.inr (va_up (va_up (fun _ => none) 0 (some (f7 0))) 1 (some (f9 0))))))))] ++ (wv G f7 o0) ++ (wv G f9 o0) ++ [(q10, .inl (G.2.2 2, 2, .inl (fun _ => 0)))]) H := hP
  have hD : va_D A ([(b, .inr (4, [.ref (f2 0), .ref (f4 0), .ref q5, .ref q10, .null, .null, .null, .int 0, .int 0]))] ++ (wv G f2 o0) ++ (wv G f4 o0) ++ [(q5, .inl (G.2.2 3, 2, .inr (.inr (.inr (.inr (va_up (va_up (fun _ => none) 0 (some (f7 0))) 1 (some (f9 0))))))))] ++ (wv G f7 o0) ++ (wv G f9 o0) ++ [(q10, .inl (G.2.2 2, 2, .inl (fun _ => 0)))]) := hD
  refine lv_aload_n hx hb dX4_init_67 rfl (lv_at hl 1 rfl) ?_
  refine va_new (ci := 1) (fs := [.null, .int 0, .int 0, .int 0, .int 0, .int 0, .null, .null, .int 0, .null]) (C := RX1) (T := TX1) (N := 10) hx hb hts hiX1 tyX1 tyX1_ok hown (hts (.classLink RX4 27 RX1) (List.mem_of_getElem? (i := 12) rfl)) (hts (.instantiable RX1 10) (List.mem_of_getElem? (i := 13) rfl)) (hts (.initialized RX1) (List.mem_of_getElem? (i := 14) rfl)) hK hP hD hS hA rfl (fun j hj => by rcases (show j = 0 ∨ j = 1 ∨ j = 2 ∨ j = 3 ∨ j = 4 ∨ j = 5 ∨ j = 6 ∨ j = 7 ∨ j = 8 ∨ j = 9 by omega) with rfl | rfl | rfl | rfl | rfl | rfl | rfl | rfl | rfl | rfl <;> rfl) (Nat.le_of_ble_eq_true rfl) (Nat.le_of_ble_eq_true rfl) dX4_init_68 (fun q11 H hP hD hS => ?_)
  have hP : PP G ([(b, .inr (4, [.ref (f2 0), .ref (f4 0), .ref q5, .ref q10, .null, .null, .null, .int 0, .int 0]))] ++ (wv G f2 o0) ++ (wv G f4 o0) ++ [(q5, .inl (G.2.2 3, 2, .inr (.inr (.inr (.inr (va_up (va_up (fun _ => none) 0 (some (f7 0))) 1 (some (f9 0))))))))] ++ (wv G f7 o0) ++ (wv G f9 o0) ++ [(q10, .inl (G.2.2 2, 2, .inl (fun _ => 0))), (q11, .inr (1, [.null, .int 0, .int 0, .int 0, .int 0, .int 0, .null, .null, .int 0, .null]))]) H := hP
  have hD : va_D A ([(b, .inr (4, [.ref (f2 0), .ref (f4 0), .ref q5, .ref q10, .null, .null, .null, .int 0, .int 0]))] ++ (wv G f2 o0) ++ (wv G f4 o0) ++ [(q5, .inl (G.2.2 3, 2, .inr (.inr (.inr (.inr (va_up (va_up (fun _ => none) 0 (some (f7 0))) 1 (some (f9 0))))))))] ++ (wv G f7 o0) ++ (wv G f9 o0) ++ [(q10, .inl (G.2.2 2, 2, .inl (fun _ => 0))), (q11, .inr (1, [.null, .int 0, .int 0, .int 0, .int 0, .int 0, .null, .null, .int 0, .null]))]) := hD
  refine lv_dup hx hb dX4_init_71 rfl ?_
  have hPc := hP.sub (ws' := [(q11, .inr (1, [.null, .int 0, .int 0, .int 0, .int 0, .int 0, .null, .null, .int 0, .null]))]) [35] rfl
  have hDc := hD.sub (ws' := [(q11, .inr (1, [.null, .int 0, .int 0, .int 0, .int 0, .int 0, .null, .null, .int 0, .null]))]) [35] (by decide) rfl
  have hFc := va_free (wc := [(q11, .inr (1, [.null, .int 0, .int 0, .int 0, .int 0, .int 0, .null, .null, .int 0, .null]))]) hD hS hA [35] rfl
  refine va_callv (va_runI (As := []) (rest := [.ref q11, .ref b]) ⟨hx, hb, hml, hown, hts⟩ (in_X1 l G H.size q11) (cwI 0 hts gX4_init_X1_init rfl rfl rfl (hts (.initialized RX1) (List.mem_of_getElem? (i := 14) rfl)) (hts (.methodLink RX4 29 yX1_init) (List.mem_of_getElem? (i := 40) rfl)) (hts (.instanceMethod yX1_init) (List.mem_of_getElem? (i := 41) rfl)) rfl (by decide +kernel) ⟨Nat.le_of_ble_eq_true rfl, Nat.le_of_ble_eq_true rfl⟩) ⟨preI_blind, fun U hU hW => ⟨rfl, by rw [hU], by rw [hU]; exact hPc, va_K.moved hW.alike hK, hAO.moved hW.alike, hDc.weaken (fun _ _ _ _ => trivial)⟩⟩ rfl rfl hl.1 rfl (lv_room (Nat.le_of_ble_eq_true rfl)) dX4_init_72 ⟨Nat.le_of_ble_eq_true rfl, Nat.le_of_ble_eq_true rfl⟩) hS (fun q _ h => hFc q h) hFc (fun f12 t H1 locs ht hvm hw hB hz1 hk1 hS => ?_)
  obtain ⟨hP1, hD1⟩ := hB
  rw [ht] at hP1
  obtain ⟨hP2, hD2⟩ := va_join (wr := [(b, .inr (4, [.ref (f2 0), .ref (f4 0), .ref q5, .ref q10, .null, .null, .null, .int 0, .int 0]))] ++ (wv G f2 o0) ++ (wv G f4 o0) ++ [(q5, .inl (G.2.2 3, 2, .inr (.inr (.inr (.inr (va_up (va_up (fun _ => none) 0 (some (f7 0))) 1 (some (f9 0))))))))] ++ (wv G f7 o0) ++ (wv G f9 o0) ++ [(q10, .inl (G.2.2 2, 2, .inl (fun _ => 0)))]) (w1 := (rv G f12 rd0 o0)) hP hD [35] [0, 1, 2, 3, 4, 5, 6, 7, 8, 9, 10, 11, 12, 13, 14, 15, 16, 17, 18, 19, 20, 21, 22, 23, 24, 25, 26, 27, 28, 29, 30, 31, 32, 33, 34] rfl rfl (by decide) (by decide) hk1 hFc hP1 hD1
  clear hPc hDc hFc hP1 hD1 hk1 hz1 hvm hP hD
  generalize H1 = H at hP2 hS ⊢
  subst hw
  have hP := hP2
  have hD := hD2
  clear hP2 hD2
  have hP : PP G ([(b, .inr (4, [.ref (f2 0), .ref (f4 0), .ref q5, .ref q10, .null, .null, .null, .int 0, .int 0]))] ++ (wv G f2 o0) ++ (wv G f4 o0) ++ [(q5, .inl (G.2.2 3, 2, .inr (.inr (.inr (.inr (va_up (va_up (fun _ => none) 0 (some (f7 0))) 1 (some (f9 0))))))))] ++ (wv G f7 o0) ++ (wv G f9 o0) ++ [(q10, .inl (G.2.2 2, 2, .inl (fun _ => 0)))] ++ (rv G f12 rd0 o0)) H := hP
  have hD : va_D A ([(b, .inr (4, [.ref (f2 0), .ref (f4 0), .ref q5, .ref q10, .null, .null, .null, .int 0, .int 0]))] ++ (wv G f2 o0) ++ (wv G f4 o0) ++ [(q5, .inl (G.2.2 3, 2, .inr (.inr (.inr (.inr (va_up (va_up (fun _ => none) 0 (some (f7 0))) 1 (some (f9 0))))))))] ++ (wv G f7 o0) ++ (wv G f9 o0) ++ [(q10, .inl (G.2.2 2, 2, .inl (fun _ => 0)))] ++ (rv G f12 rd0 o0)) := hD
  refine va_putF (D := gD G) (ci := 4) (v := .ref (f12 0)) (ty := .object "WovenHistory$Reader") (C := RX4) (T := TX4) (N := 9) hx hb hts hiX4 tyX4 tyX4_ok nmX4 hown hK hP hD hS 0 rfl rfl 4 (by decide) k30 (fun _ h9 => h9) rfl hin rfl (by decide +kernel) rfl rfl (Nat.le_of_ble_eq_true rfl) dX4_init_75 (fun H locs hP hD hS => ?_)
  have hP : PP G ([(b, .inr (4, [.ref (f2 0), .ref (f4 0), .ref q5, .ref q10, .ref (f12 0), .null, .null, .int 0, .int 0]))] ++ (wv G f2 o0) ++ (wv G f4 o0) ++ [(q5, .inl (G.2.2 3, 2, .inr (.inr (.inr (.inr (va_up (va_up (fun _ => none) 0 (some (f7 0))) 1 (some (f9 0))))))))] ++ (wv G f7 o0) ++ (wv G f9 o0) ++ [(q10, .inl (G.2.2 2, 2, .inl (fun _ => 0)))] ++ (rv G f12 rd0 o0)) H := hP
  have hD : va_D A ([(b, .inr (4, [.ref (f2 0), .ref (f4 0), .ref q5, .ref q10, .ref (f12 0), .null, .null, .int 0, .int 0]))] ++ (wv G f2 o0) ++ (wv G f4 o0) ++ [(q5, .inl (G.2.2 3, 2, .inr (.inr (.inr (.inr (va_up (va_up (fun _ => none) 0 (some (f7 0))) 1 (some (f9 0))))))))] ++ (wv G f7 o0) ++ (wv G f9 o0) ++ [(q10, .inl (G.2.2 2, 2, .inl (fun _ => 0)))] ++ (rv G f12 rd0 o0)) := hD
  refine lv_aload_n hx hb dX4_init_78 rfl (lv_at hl 1 rfl) ?_
  refine va_new (ci := 2) (fs := [.null, .null]) (C := RX2) (T := TX2) (N := 2) hx hb hts hiX2 tyX2 tyX2_ok hown (hts (.classLink RX4 34 RX2) (List.mem_of_getElem? (i := 16) rfl)) (hts (.instantiable RX2 2) (List.mem_of_getElem? (i := 17) rfl)) (hts (.initialized RX2) (List.mem_of_getElem? (i := 18) rfl)) hK hP hD hS hA rfl (fun j hj => by rcases (show j = 0 ∨ j = 1 by omega) with rfl | rfl <;> rfl) (Nat.le_of_ble_eq_true rfl) (Nat.le_of_ble_eq_true rfl) dX4_init_79 (fun q13 H hP hD hS => ?_)
  have hP : PP G ([(b, .inr (4, [.ref (f2 0), .ref (f4 0), .ref q5, .ref q10, .ref (f12 0), .null, .null, .int 0, .int 0]))] ++ (wv G f2 o0) ++ (wv G f4 o0) ++ [(q5, .inl (G.2.2 3, 2, .inr (.inr (.inr (.inr (va_up (va_up (fun _ => none) 0 (some (f7 0))) 1 (some (f9 0))))))))] ++ (wv G f7 o0) ++ (wv G f9 o0) ++ [(q10, .inl (G.2.2 2, 2, .inl (fun _ => 0)))] ++ (rv G f12 rd0 o0) ++ [(q13, .inr (2, [.null, .null]))]) H := hP
  have hD : va_D A ([(b, .inr (4, [.ref (f2 0), .ref (f4 0), .ref q5, .ref q10, .ref (f12 0), .null, .null, .int 0, .int 0]))] ++ (wv G f2 o0) ++ (wv G f4 o0) ++ [(q5, .inl (G.2.2 3, 2, .inr (.inr (.inr (.inr (va_up (va_up (fun _ => none) 0 (some (f7 0))) 1 (some (f9 0))))))))] ++ (wv G f7 o0) ++ (wv G f9 o0) ++ [(q10, .inl (G.2.2 2, 2, .inl (fun _ => 0)))] ++ (rv G f12 rd0 o0) ++ [(q13, .inr (2, [.null, .null]))]) := hD
  refine lv_dup hx hb dX4_init_82 rfl ?_
  have hPc := hP.sub (ws' := [(q13, .inr (2, [.null, .null]))]) [47] rfl
  have hDc := hD.sub (ws' := [(q13, .inr (2, [.null, .null]))]) [47] (by decide) rfl
  have hFc := va_free (wc := [(q13, .inr (2, [.null, .null]))]) hD hS hA [47] rfl
  refine va_callv (va_runI (As := []) (rest := [.ref q13, .ref b]) ⟨hx, hb, hml, hown, hts⟩ (in_X2 l G H.size q13) (cwI 0 hts gX4_init_X2_init rfl rfl rfl (hts (.initialized RX2) (List.mem_of_getElem? (i := 18) rfl)) (hts (.methodLink RX4 36 yX2_init) (List.mem_of_getElem? (i := 56) rfl)) (hts (.instanceMethod yX2_init) (List.mem_of_getElem? (i := 57) rfl)) rfl (by decide +kernel) ⟨Nat.le_of_ble_eq_true rfl, Nat.le_of_ble_eq_true rfl⟩) ⟨preI_blind, fun U hU hW => ⟨rfl, by rw [hU], by rw [hU]; exact hPc, va_K.moved hW.alike hK, hAO.moved hW.alike, hDc.weaken (fun _ _ _ _ => trivial)⟩⟩ rfl rfl hl.1 rfl (lv_room (Nat.le_of_ble_eq_true rfl)) dX4_init_83 ⟨Nat.le_of_ble_eq_true rfl, Nat.le_of_ble_eq_true rfl⟩) hS (fun q _ h => hFc q h) hFc (fun f14 t H1 locs ht hvm hw hB hz1 hk1 hS => ?_)
  obtain ⟨hP1, hD1⟩ := hB
  rw [ht] at hP1
  obtain ⟨hP2, hD2⟩ := va_join (wr := [(b, .inr (4, [.ref (f2 0), .ref (f4 0), .ref q5, .ref q10, .ref (f12 0), .null, .null, .int 0, .int 0]))] ++ (wv G f2 o0) ++ (wv G f4 o0) ++ [(q5, .inl (G.2.2 3, 2, .inr (.inr (.inr (.inr (va_up (va_up (fun _ => none) 0 (some (f7 0))) 1 (some (f9 0))))))))] ++ (wv G f7 o0) ++ (wv G f9 o0) ++ [(q10, .inl (G.2.2 2, 2, .inl (fun _ => 0)))] ++ (rv G f12 rd0 o0)) (w1 := (sv G f14 z0 jj0)) hP hD [47] [0, 1, 2, 3, 4, 5, 6, 7, 8, 9, 10, 11, 12, 13, 14, 15, 16, 17, 18, 19, 20, 21, 22, 23, 24, 25, 26, 27, 28, 29, 30, 31, 32, 33, 34, 35, 36, 37, 38, 39, 40, 41, 42, 43, 44, 45, 46] rfl rfl (by decide) (by decide) hk1 hFc hP1 hD1
  clear hPc hDc hFc hP1 hD1 hk1 hz1 hvm hP hD
  generalize H1 = H at hP2 hS ⊢
  subst hw
  have hP := hP2
  have hD := hD2
  clear hP2 hD2
  have hP : PP G ([(b, .inr (4, [.ref (f2 0), .ref (f4 0), .ref q5, .ref q10, .ref (f12 0), .null, .null, .int 0, .int 0]))] ++ (wv G f2 o0) ++ (wv G f4 o0) ++ [(q5, .inl (G.2.2 3, 2, .inr (.inr (.inr (.inr (va_up (va_up (fun _ => none) 0 (some (f7 0))) 1 (some (f9 0))))))))] ++ (wv G f7 o0) ++ (wv G f9 o0) ++ [(q10, .inl (G.2.2 2, 2, .inl (fun _ => 0)))] ++ (rv G f12 rd0 o0) ++ (sv G f14 z0 jj0)) H := hP
  have hD : va_D A ([(b, .inr (4, [.ref (f2 0), .ref (f4 0), .ref q5, .ref q10, .ref (f12 0), .null, .null, .int 0, .int 0]))] ++ (wv G f2 o0) ++ (wv G f4 o0) ++ [(q5, .inl (G.2.2 3, 2, .inr (.inr (.inr (.inr (va_up (va_up (fun _ => none) 0 (some (f7 0))) 1 (some (f9 0))))))))] ++ (wv G f7 o0) ++ (wv G f9 o0) ++ [(q10, .inl (G.2.2 2, 2, .inl (fun _ => 0)))] ++ (rv G f12 rd0 o0) ++ (sv G f14 z0 jj0)) := hD
  refine va_putF (D := gD G) (ci := 4) (v := .ref (f14 0)) (ty := .object "WovenHistory$Sheets") (C := RX4) (T := TX4) (N := 9) hx hb hts hiX4 tyX4 tyX4_ok nmX4 hown hK hP hD hS 0 rfl rfl 5 (by decide) k37 (fun _ h9 => h9) rfl hin rfl (by decide +kernel) rfl rfl (Nat.le_of_ble_eq_true rfl) dX4_init_86 (fun H locs hP hD hS => ?_)
  have hP : PP G ([(b, .inr (4, [.ref (f2 0), .ref (f4 0), .ref q5, .ref q10, .ref (f12 0), .ref (f14 0), .null, .int 0, .int 0]))] ++ (wv G f2 o0) ++ (wv G f4 o0) ++ [(q5, .inl (G.2.2 3, 2, .inr (.inr (.inr (.inr (va_up (va_up (fun _ => none) 0 (some (f7 0))) 1 (some (f9 0))))))))] ++ (wv G f7 o0) ++ (wv G f9 o0) ++ [(q10, .inl (G.2.2 2, 2, .inl (fun _ => 0)))] ++ (rv G f12 rd0 o0) ++ (sv G f14 z0 jj0)) H := hP
  have hD : va_D A ([(b, .inr (4, [.ref (f2 0), .ref (f4 0), .ref q5, .ref q10, .ref (f12 0), .ref (f14 0), .null, .int 0, .int 0]))] ++ (wv G f2 o0) ++ (wv G f4 o0) ++ [(q5, .inl (G.2.2 3, 2, .inr (.inr (.inr (.inr (va_up (va_up (fun _ => none) 0 (some (f7 0))) 1 (some (f9 0))))))))] ++ (wv G f7 o0) ++ (wv G f9 o0) ++ [(q10, .inl (G.2.2 2, 2, .inl (fun _ => 0)))] ++ (rv G f12 rd0 o0) ++ (sv G f14 z0 jj0)) := hD
  refine lv_aload_n hx hb dX4_init_89 rfl (lv_at hl 1 rfl) ?_
  refine va_new (ci := 0) (fs := [.long 0]) (C := RX0) (T := TX0) (N := 1) hx hb hts hiX0 tyX0 tyX0_ok hown (hts (.classLink RX4 41 RX0) (List.mem_of_getElem? (i := 20) rfl)) (hts (.instantiable RX0 1) (List.mem_of_getElem? (i := 21) rfl)) (hts (.initialized RX0) (List.mem_of_getElem? (i := 22) rfl)) hK hP hD hS hA rfl (fun j hj => by rcases (show j = 0 by omega) with rfl <;> rfl) (Nat.le_of_ble_eq_true rfl) (Nat.le_of_ble_eq_true rfl) dX4_init_90 (fun q15 H hP hD hS => ?_)
  have hP : PP G ([(b, .inr (4, [.ref (f2 0), .ref (f4 0), .ref q5, .ref q10, .ref (f12 0), .ref (f14 0), .null, .int 0, .int 0]))] ++ (wv G f2 o0) ++ (wv G f4 o0) ++ [(q5, .inl (G.2.2 3, 2, .inr (.inr (.inr (.inr (va_up (va_up (fun _ => none) 0 (some (f7 0))) 1 (some (f9 0))))))))] ++ (wv G f7 o0) ++ (wv G f9 o0) ++ [(q10, .inl (G.2.2 2, 2, .inl (fun _ => 0)))] ++ (rv G f12 rd0 o0) ++ (sv G f14 z0 jj0) ++ [(q15, .inr (0, [.long 0]))]) H := hP
  have hD : va_D A ([(b, .inr (4, [.ref (f2 0), .ref (f4 0), .ref q5, .ref q10, .ref (f12 0), .ref (f14 0), .null, .int 0, .int 0]))] ++ (wv G f2 o0) ++ (wv G f4 o0) ++ [(q5, .inl (G.2.2 3, 2, .inr (.inr (.inr (.inr (va_up (va_up (fun _ => none) 0 (some (f7 0))) 1 (some (f9 0))))))))] ++ (wv G f7 o0) ++ (wv G f9 o0) ++ [(q10, .inl (G.2.2 2, 2, .inl (fun _ => 0)))] ++ (rv G f12 rd0 o0) ++ (sv G f14 z0 jj0) ++ [(q15, .inr (0, [.long 0]))]) := hD
  refine lv_dup hx hb dX4_init_93 rfl ?_
  have hPc := hP.sub (ws' := [(q15, .inr (0, [.long 0]))]) [54] rfl
  have hDc := hD.sub (ws' := [(q15, .inr (0, [.long 0]))]) [54] (by decide) rfl
  have hFc := va_free (wc := [(q15, .inr (0, [.long 0]))]) hD hS hA [54] rfl
  refine va_callv (va_runI (As := []) (rest := [.ref q15, .ref b]) ⟨hx, hb, hml, hown, hts⟩ (in_X0 l G H.size q15) (cwI 0 hts gX4_init_X0_init rfl rfl rfl (hts (.initialized RX0) (List.mem_of_getElem? (i := 22) rfl)) (hts (.methodLink RX4 43 yX0_init) (List.mem_of_getElem? (i := 64) rfl)) (hts (.instanceMethod yX0_init) (List.mem_of_getElem? (i := 65) rfl)) rfl (by decide +kernel) ⟨Nat.le_of_ble_eq_true rfl, Nat.le_of_ble_eq_true rfl⟩) ⟨preI_blind, fun U hU hW => ⟨rfl, by rw [hU], by rw [hU]; exact hPc, va_K.moved hW.alike hK, hAO.moved hW.alike, hDc.weaken (fun _ _ _ _ => trivial)⟩⟩ rfl rfl hl.1 rfl (lv_room (Nat.le_of_ble_eq_true rfl)) dX4_init_94 ⟨Nat.le_of_ble_eq_true rfl, Nat.le_of_ble_eq_true rfl⟩) hS (fun q _ h => hFc q h) hFc (fun f16 t H1 locs ht hvm hw hB hz1 hk1 hS => ?_)
  obtain ⟨hP1, hD1⟩ := hB
  rw [ht] at hP1
  obtain ⟨hP2, hD2⟩ := va_join (wr := [(b, .inr (4, [.ref (f2 0), .ref (f4 0), .ref q5, .ref q10, .ref (f12 0), .ref (f14 0), .null, .int 0, .int 0]))] ++ (wv G f2 o0) ++ (wv G f4 o0) ++ [(q5, .inl (G.2.2 3, 2, .inr (.inr (.inr (.inr (va_up (va_up (fun _ => none) 0 (some (f7 0))) 1 (some (f9 0))))))))] ++ (wv G f7 o0) ++ (wv G f9 o0) ++ [(q10, .inl (G.2.2 2, 2, .inl (fun _ => 0)))] ++ (rv G f12 rd0 o0) ++ (sv G f14 z0 jj0)) (w1 := (tv G f16 1)) hP hD [54] [0, 1, 2, 3, 4, 5, 6, 7, 8, 9, 10, 11, 12, 13, 14, 15, 16, 17, 18, 19, 20, 21, 22, 23, 24, 25, 26, 27, 28, 29, 30, 31, 32, 33, 34, 35, 36, 37, 38, 39, 40, 41, 42, 43, 44, 45, 46, 47, 48, 49, 50, 51, 52, 53] rfl rfl (by decide) (by decide) hk1 hFc hP1 hD1
  clear hPc hDc hFc hP1 hD1 hk1 hz1 hvm hP hD
  generalize H1 = H at hP2 hS ⊢
  subst hw
  have hP := hP2
  have hD := hD2
  clear hP2 hD2
  have hP : PP G ([(b, .inr (4, [.ref (f2 0), .ref (f4 0), .ref q5, .ref q10, .ref (f12 0), .ref (f14 0), .null, .int 0, .int 0]))] ++ (wv G f2 o0) ++ (wv G f4 o0) ++ [(q5, .inl (G.2.2 3, 2, .inr (.inr (.inr (.inr (va_up (va_up (fun _ => none) 0 (some (f7 0))) 1 (some (f9 0))))))))] ++ (wv G f7 o0) ++ (wv G f9 o0) ++ [(q10, .inl (G.2.2 2, 2, .inl (fun _ => 0)))] ++ (rv G f12 rd0 o0) ++ (sv G f14 z0 jj0) ++ (tv G f16 1)) H := hP
  have hD : va_D A ([(b, .inr (4, [.ref (f2 0), .ref (f4 0), .ref q5, .ref q10, .ref (f12 0), .ref (f14 0), .null, .int 0, .int 0]))] ++ (wv G f2 o0) ++ (wv G f4 o0) ++ [(q5, .inl (G.2.2 3, 2, .inr (.inr (.inr (.inr (va_up (va_up (fun _ => none) 0 (some (f7 0))) 1 (some (f9 0))))))))] ++ (wv G f7 o0) ++ (wv G f9 o0) ++ [(q10, .inl (G.2.2 2, 2, .inl (fun _ => 0)))] ++ (rv G f12 rd0 o0) ++ (sv G f14 z0 jj0) ++ (tv G f16 1)) := hD
  refine va_putF (D := gD G) (ci := 4) (v := .ref (f16 0)) (ty := .object "WovenHistory$Lots") (C := RX4) (T := TX4) (N := 9) hx hb hts hiX4 tyX4 tyX4_ok nmX4 hown hK hP hD hS 0 rfl rfl 6 (by decide) k44 (fun _ h9 => h9) rfl hin rfl (by decide +kernel) rfl rfl (Nat.le_of_ble_eq_true rfl) dX4_init_97 (fun H locs hP hD hS => ?_)
  have hP : PP G ([(b, .inr (4, [.ref (f2 0), .ref (f4 0), .ref q5, .ref q10, .ref (f12 0), .ref (f14 0), .ref (f16 0), .int 0, .int 0]))] ++ (wv G f2 o0) ++ (wv G f4 o0) ++ [(q5, .inl (G.2.2 3, 2, .inr (.inr (.inr (.inr (va_up (va_up (fun _ => none) 0 (some (f7 0))) 1 (some (f9 0))))))))] ++ (wv G f7 o0) ++ (wv G f9 o0) ++ [(q10, .inl (G.2.2 2, 2, .inl (fun _ => 0)))] ++ (rv G f12 rd0 o0) ++ (sv G f14 z0 jj0) ++ (tv G f16 1)) H := hP
  have hD : va_D A ([(b, .inr (4, [.ref (f2 0), .ref (f4 0), .ref q5, .ref q10, .ref (f12 0), .ref (f14 0), .ref (f16 0), .int 0, .int 0]))] ++ (wv G f2 o0) ++ (wv G f4 o0) ++ [(q5, .inl (G.2.2 3, 2, .inr (.inr (.inr (.inr (va_up (va_up (fun _ => none) 0 (some (f7 0))) 1 (some (f9 0))))))))] ++ (wv G f7 o0) ++ (wv G f9 o0) ++ [(q10, .inl (G.2.2 2, 2, .inl (fun _ => 0)))] ++ (rv G f12 rd0 o0) ++ (sv G f14 z0 jj0) ++ (tv G f16 1)) := hD
  refine lv_aload_n hx hb dX4_init_100 rfl (lv_at hl 1 rfl) ?_
  refine lv_iconst (v := nI 0) hx hb dX4_init_101 (by decide) ?_
  refine va_put (D := gD G) (ci := 4) (v := .int (nI 0)) (ty := .boolean) (C := RX4) (T := TX4) (N := 9) hx hb hts hiX4 tyX4 tyX4_ok nmX4 hown hK hP hD hS 0 rfl rfl 7 (by decide) k48 (fun _ h9 => h9) rfl (by decide +kernel) rfl rfl (Nat.le_of_ble_eq_true rfl) dX4_init_102 (fun H locs hP hD hS => ?_)
  have hP : PP G ([(b, .inr (4, [.ref (f2 0), .ref (f4 0), .ref q5, .ref q10, .ref (f12 0), .ref (f14 0), .ref (f16 0), .int (nI 0), .int 0]))] ++ (wv G f2 o0) ++ (wv G f4 o0) ++ [(q5, .inl (G.2.2 3, 2, .inr (.inr (.inr (.inr (va_up (va_up (fun _ => none) 0 (some (f7 0))) 1 (some (f9 0))))))))] ++ (wv G f7 o0) ++ (wv G f9 o0) ++ [(q10, .inl (G.2.2 2, 2, .inl (fun _ => 0)))] ++ (rv G f12 rd0 o0) ++ (sv G f14 z0 jj0) ++ (tv G f16 1)) H := hP
  have hD : va_D A ([(b, .inr (4, [.ref (f2 0), .ref (f4 0), .ref q5, .ref q10, .ref (f12 0), .ref (f14 0), .ref (f16 0), .int (nI 0), .int 0]))] ++ (wv G f2 o0) ++ (wv G f4 o0) ++ [(q5, .inl (G.2.2 3, 2, .inr (.inr (.inr (.inr (va_up (va_up (fun _ => none) 0 (some (f7 0))) 1 (some (f9 0))))))))] ++ (wv G f7 o0) ++ (wv G f9 o0) ++ [(q10, .inl (G.2.2 2, 2, .inl (fun _ => 0)))] ++ (rv G f12 rd0 o0) ++ (sv G f14 z0 jj0) ++ (tv G f16 1)) := hD
  refine lv_aload_n hx hb dX4_init_105 rfl (lv_at hl 1 rfl) ?_
  refine lv_iconst (v := (-1 : Int32)) hx hb dX4_init_106 (by decide) ?_
  refine va_put (D := gD G) (ci := 4) (v := .int ((-1 : Int32))) (ty := .int) (C := RX4) (T := TX4) (N := 9) hx hb hts hiX4 tyX4 tyX4_ok nmX4 hown hK hP hD hS 0 rfl rfl 8 (by decide) k52 (fun _ h9 => h9) rfl (by decide +kernel) rfl rfl (Nat.le_of_ble_eq_true rfl) dX4_init_107 (fun H locs hP hD hS => ?_)
  have hP : PP G ([(b, .inr (4, [.ref (f2 0), .ref (f4 0), .ref q5, .ref q10, .ref (f12 0), .ref (f14 0), .ref (f16 0), .int (nI 0), .int ((-1 : Int32))]))] ++ (wv G f2 o0) ++ (wv G f4 o0) ++ [(q5, .inl (G.2.2 3, 2, .inr (.inr (.inr (.inr (va_up (va_up (fun _ => none) 0 (some (f7 0))) 1 (some (f9 0))))))))] ++ (wv G f7 o0) ++ (wv G f9 o0) ++ [(q10, .inl (G.2.2 2, 2, .inl (fun _ => 0)))] ++ (rv G f12 rd0 o0) ++ (sv G f14 z0 jj0) ++ (tv G f16 1)) H := hP
  have hD : va_D A ([(b, .inr (4, [.ref (f2 0), .ref (f4 0), .ref q5, .ref q10, .ref (f12 0), .ref (f14 0), .ref (f16 0), .int (nI 0), .int ((-1 : Int32))]))] ++ (wv G f2 o0) ++ (wv G f4 o0) ++ [(q5, .inl (G.2.2 3, 2, .inr (.inr (.inr (.inr (va_up (va_up (fun _ => none) 0 (some (f7 0))) 1 (some (f9 0))))))))] ++ (wv G f7 o0) ++ (wv G f9 o0) ++ [(q10, .inl (G.2.2 2, 2, .inl (fun _ => 0)))] ++ (rv G f12 rd0 o0) ++ (sv G f14 z0 jj0) ++ (tv G f16 1)) := hD
  obtain ⟨h9, e9, hP9, hD9⟩ := xw_mk (G := G) (A := A) (b := b) (q5 := q5) (q10 := q10) (f2 := f2) (f4 := f4) (f7 := f7) (f9 := f9) (f12 := f12) (f14 := f14) (f16 := f16) hP hD
  refine W.widen (k := 54) (n := 2846) (Nat.le_of_ble_eq_true rfl) (Nat.le_of_ble_eq_true rfl) ?_
  exact W.vret hx hb hr (fun t ht hW => ⟨⟨h9, rfl, e9, by rw [ht]; exact hP9, hD9⟩, hS.F ht⟩) hS.2.2 dX4_init_110
