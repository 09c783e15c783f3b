set_option maxHeartbeats 4000000 in
set_option maxRecDepth 100000 in
theorem law_loop {p : Program} {l : Launch} {e : Env} {s : State} {m : MethodId} {below : List Frame} {meth : Method} {c : Code} {G : gG} {ax am : Nat → Nat} {b L : Nat} {xs : Nat → Int32} (C0 : lw_At p s m meth c b L xs) (hK : KK G s) (hN : NN s) (hL : L ≤ 2560) : ∀ (n i : Nat), i ≤ L → L + 1 ≤ i + n → LKC p l e s m below meth c G ax am b i 18 := by
  intro n
  induction n with
  | zero => intro i h1 h2; exact absurd h2 (by omega)
  | succ n ih =>
    intro i hi hin x wn wa w0 w1 rd wr z jj lt u lm sj hI H locs ls hP hD hS hl
    obtain ⟨hx, hb, hr, hml, hown, hts, hX, hbl, hlocks, hgv⟩ := id C0
    have hA : ∀ q : Nat, s.heap.size ≤ q → (fun q : Nat => s.heap.size ≤ q) q := fun _ h => h
    have hbA : ¬ (fun q : Nat => s.heap.size ≤ q) b := Nat.not_le.mpr hbl
    refine lv_iload_n hx hb dL_law_18 rfl (lv_at hl 3 rfl) ?_
    refine lv_aload_n hx hb dL_law_19 rfl (lv_at hl 0 rfl) ?_
    refine va_slen hx hb hX hbl hbA hS dL_law_20 ?_
    refine lv_iconst (v := nI 5) hx hb dL_law_21 (by decide) ?_
    refine lv_isub hx hb dL_law_22 ?_
    refine lv_icmp_gt (tgt := 1010) hx hb dL_law_23 (by decide) (fun c23 => ?_) (fun c23 => ?_)
    · refine lv_iconst (v := 1) hx hb dL_law_1010 (by decide) ?_
      refine va_forget (fun q hq => hS.2.2 q hq) ?_
      refine W.widen (k := 600000) (n := 7302249) (Nat.le_of_ble_eq_true rfl) (Nat.le_of_ble_eq_true rfl) ?_
      exact lw_ret hx hb hr hlocks dL_law_1011
    · have hi5 : i + 5 ≤ L := law_lt hL (by omega) c23
      have kk : LKC p l e s m below meth c G ax am b i 1004 := by
        intro x wn wa w0 w1 rd wr z jj lt u lm sj hI H locs ls hP hD hS hl
        refine lv_iinc (v := nI (i + 5)) (lv' := [(3, .int (nI (i + 5))), (0, .ref b), (1, .ref (ax 0)), (2, .ref (am 0))]) hx hb dL_law_1004 hl (k := 3) rfl (nI_add i 5) (by decide) rfl (fun ls hl => ?_)
        refine lv_goto (tgt := 18) hx hb dL_law_1007 (by decide) ?_
        exact ih (i + 5) (by omega) (by omega) x wn wa w0 w1 rd wr z jj lt u lm sj hI H locs ls hP hD hS (lv_sub hl [1, 2, 3, 0] rfl)
      have hin0 : vp_in (nI i) L := vp_in_nI (by omega) (by omega)
      refine lv_aload_n hx hb dL_law_26 rfl (lv_at hl 0 rfl) ?_
      refine lv_iload_n hx hb dL_law_27 rfl (lv_at hl 3 rfl) ?_
      refine va_sld hx hb hX hbl hbA hS hin0 dL_law_28 ?_
      refine lv_bipush (v := (31 : Int32)) hx hb dL_law_29 (by decide) ?_
      refine lv_iand hx hb dL_law_31 ?_
      refine lv_topi (fun wd ew => ?_)
      clear ew
      by_cases q0 : wd = 0
      · subst q0
        refine lv_tableIn (tgt := 160) hx hb dL_law_32 (by decide) (by decide) rfl (by decide) ?_
        exact lc_0 C0 hK hN i hi5 hL kk x wn wa w0 w1 rd wr z jj lt u lm sj hI H locs ls hP hD hS hl
      by_cases q1 : wd = 1
      · subst q1
        refine lv_tableIn (tgt := 183) hx hb dL_law_32 (by decide) (by decide) rfl (by decide) ?_
        exact lc_1 C0 hK hN i hi5 hL kk x wn wa w0 w1 rd wr z jj lt u lm sj hI H locs ls hP hD hS hl
      by_cases q2 : wd = 2
      · subst q2
        refine lv_tableIn (tgt := 196) hx hb dL_law_32 (by decide) (by decide) rfl (by decide) ?_
        exact lc_2 C0 hK hN i hi5 hL kk x wn wa w0 w1 rd wr z jj lt u lm sj hI H locs ls hP hD hS hl
      by_cases q3 : wd = 3
      · subst q3
        refine lv_tableIn (tgt := 209) hx hb dL_law_32 (by decide) (by decide) rfl (by decide) ?_
        exact lc_3 C0 hK hN i hi5 hL kk x wn wa w0 w1 rd wr z jj lt u lm sj hI H locs ls hP hD hS hl
      by_cases q4 : wd = 4
      · subst q4
        refine lv_tableIn (tgt := 232) hx hb dL_law_32 (by decide) (by decide) rfl (by decide) ?_
        exact lc_4 C0 hK hN i hi5 hL kk x wn wa w0 w1 rd wr z jj lt u lm sj hI H locs ls hP hD hS hl
      by_cases q5 : wd = 5
      · subst q5
        refine lv_tableIn (tgt := 265) hx hb dL_law_32 (by decide) (by decide) rfl (by decide) ?_
        exact lc_5 C0 hK hN i hi5 hL kk x wn wa w0 w1 rd wr z jj lt u lm sj hI H locs ls hP hD hS hl
      by_cases q6 : wd = 6
      · subst q6
        refine lv_tableIn (tgt := 298) hx hb dL_law_32 (by decide) (by decide) rfl (by decide) ?_
        exact lc_6 C0 hK hN i hi5 hL kk x wn wa w0 w1 rd wr z jj lt u lm sj hI H locs ls hP hD hS hl
      by_cases q7 : wd = 7
      · subst q7
        refine lv_tableIn (tgt := 341) hx hb dL_law_32 (by decide) (by decide) rfl (by decide) ?_
        exact lc_7 C0 hK hN i hi5 hL kk x wn wa w0 w1 rd wr z jj lt u lm sj hI H locs ls hP hD hS hl
      by_cases q8 : wd = 8
      · subst q8
        refine lv_tableIn (tgt := 364) hx hb dL_law_32 (by decide) (by decide) rfl (by decide) ?_
        exact lc_8 C0 hK hN i hi5 hL kk x wn wa w0 w1 rd wr z jj lt u lm sj hI H locs ls hP hD hS hl
      by_cases q9 : wd = 9
      · subst q9
        refine lv_tableIn (tgt := 387) hx hb dL_law_32 (by decide) (by decide) rfl (by decide) ?_
        exact lc_9 C0 hK hN i hi5 hL kk x wn wa w0 w1 rd wr z jj lt u lm sj hI H locs ls hP hD hS hl
      by_cases q10 : wd = 10
      · subst q10
        refine lv_tableIn (tgt := 410) hx hb dL_law_32 (by decide) (by decide) rfl (by decide) ?_
        exact lc_10 C0 hK hN i hi5 hL kk x wn wa w0 w1 rd wr z jj lt u lm sj hI H locs ls hP hD hS hl
      by_cases q11 : wd = 11
      · subst q11
        refine lv_tableIn (tgt := 443) hx hb dL_law_32 (by decide) (by decide) rfl (by decide) ?_
        exact lc_11 C0 hK hN i hi5 hL kk x wn wa w0 w1 rd wr z jj lt u lm sj hI H locs ls hP hD hS hl
      by_cases q12 : wd = 12
      · subst q12
        refine lv_tableIn (tgt := 466) hx hb dL_law_32 (by decide) (by decide) rfl (by decide) ?_
        exact lc_12 C0 hK hN i hi5 hL kk x wn wa w0 w1 rd wr z jj lt u lm sj hI H locs ls hP hD hS hl
      by_cases q13 : wd = 13
      · subst q13
        refine lv_tableIn (tgt := 479) hx hb dL_law_32 (by decide) (by decide) rfl (by decide) ?_
        exact lc_13 C0 hK hN i hi5 hL kk x wn wa w0 w1 rd wr z jj lt u lm sj hI H locs ls hP hD hS hl
      by_cases q14 : wd = 14
      · subst q14
        refine lv_tableIn (tgt := 492) hx hb dL_law_32 (by decide) (by decide) rfl (by decide) ?_
        exact lc_14 C0 hK hN i hi5 hL kk x wn wa w0 w1 rd wr z jj lt u lm sj hI H locs ls hP hD hS hl
      by_cases q15 : wd = 15
      · subst q15
        refine lv_tableIn (tgt := 525) hx hb dL_law_32 (by decide) (by decide) rfl (by decide) ?_
        exact lc_15 C0 hK hN i hi5 hL kk x wn wa w0 w1 rd wr z jj lt u lm sj hI H locs ls hP hD hS hl
      by_cases q16 : wd = 16
      · subst q16
        refine lv_tableIn (tgt := 558) hx hb dL_law_32 (by decide) (by decide) rfl (by decide) ?_
        exact lc_16 C0 hK hN i hi5 hL kk x wn wa w0 w1 rd wr z jj lt u lm sj hI H locs ls hP hD hS hl
      by_cases q17 : wd = 17
      · subst q17
        refine lv_tableIn (tgt := 601) hx hb dL_law_32 (by decide) (by decide) rfl (by decide) ?_
        exact lc_17 C0 hK hN i hi5 hL kk x wn wa w0 w1 rd wr z jj lt u lm sj hI H locs ls hP hD hS hl
      by_cases q18 : wd = 18
      · subst q18
        refine lv_tableIn (tgt := 634) hx hb dL_law_32 (by decide) (by decide) rfl (by decide) ?_
        exact lc_18 C0 hK hN i hi5 hL kk x wn wa w0 w1 rd wr z jj lt u lm sj hI H locs ls hP hD hS hl
      by_cases q19 : wd = 19
      · subst q19
        refine lv_tableIn (tgt := 667) hx hb dL_law_32 (by decide) (by decide) rfl (by decide) ?_
        exact lc_19 C0 hK hN i hi5 hL kk x wn wa w0 w1 rd wr z jj lt u lm sj hI H locs ls hP hD hS hl
      by_cases q20 : wd = 20
      · subst q20
        refine lv_tableIn (tgt := 700) hx hb dL_law_32 (by decide) (by decide) rfl (by decide) ?_
        exact lc_20 C0 hK hN i hi5 hL kk x wn wa w0 w1 rd wr z jj lt u lm sj hI H locs ls hP hD hS hl
      by_cases q21 : wd = 21
      · subst q21
        refine lv_tableIn (tgt := 733) hx hb dL_law_32 (by decide) (by decide) rfl (by decide) ?_
        exact lc_21 C0 hK hN i hi5 hL kk x wn wa w0 w1 rd wr z jj lt u lm sj hI H locs ls hP hD hS hl
      by_cases q22 : wd = 22
      · subst q22
        refine lv_tableIn (tgt := 806) hx hb dL_law_32 (by decide) (by decide) rfl (by decide) ?_
        exact lc_22 C0 hK hN i hi5 hL kk x wn wa w0 w1 rd wr z jj lt u lm sj hI H locs ls hP hD hS hl
      by_cases q23 : wd = 23
      · subst q23
        refine lv_tableIn (tgt := 839) hx hb dL_law_32 (by decide) (by decide) rfl (by decide) ?_
        exact lc_23 C0 hK hN i hi5 hL kk x wn wa w0 w1 rd wr z jj lt u lm sj hI H locs ls hP hD hS hl
      by_cases q24 : wd = 24
      · subst q24
        refine lv_tableIn (tgt := 862) hx hb dL_law_32 (by decide) (by decide) rfl (by decide) ?_
        exact lc_24 C0 hK hN i hi5 hL kk x wn wa w0 w1 rd wr z jj lt u lm sj hI H locs ls hP hD hS hl
      by_cases q25 : wd = 25
      · subst q25
        refine lv_tableIn (tgt := 905) hx hb dL_law_32 (by decide) (by decide) rfl (by decide) ?_
        exact lc_25 C0 hK hN i hi5 hL kk x wn wa w0 w1 rd wr z jj lt u lm sj hI H locs ls hP hD hS hl
      by_cases q26 : wd = 26
      · subst q26
        refine lv_tableIn (tgt := 958) hx hb dL_law_32 (by decide) (by decide) rfl (by decide) ?_
        exact lc_26 C0 hK hN i hi5 hL kk x wn wa w0 w1 rd wr z jj lt u lm sj hI H locs ls hP hD hS hl
      by_cases q27 : wd = 27
      · subst q27
        refine lv_tableIn (tgt := 981) hx hb dL_law_32 (by decide) (by decide) rfl (by decide) ?_
        exact lc_27 C0 hK hN i hi5 hL kk x wn wa w0 w1 rd wr z jj lt u lm sj hI H locs ls hP hD hS hl
      have t0 : ¬ wd.toInt = 0 := lv_neT q0 rfl
      have t1 : ¬ wd.toInt = 1 := lv_neT q1 rfl
      have t2 : ¬ wd.toInt = 2 := lv_neT q2 rfl
      have t3 : ¬ wd.toInt = 3 := lv_neT q3 rfl
      have t4 : ¬ wd.toInt = 4 := lv_neT q4 rfl
      have t5 : ¬ wd.toInt = 5 := lv_neT q5 rfl
      have t6 : ¬ wd.toInt = 6 := lv_neT q6 rfl
      have t7 : ¬ wd.toInt = 7 := lv_neT q7 rfl
      have t8 : ¬ wd.toInt = 8 := lv_neT q8 rfl
      have t9 : ¬ wd.toInt = 9 := lv_neT q9 rfl
      have t10 : ¬ wd.toInt = 10 := lv_neT q10 rfl
      have t11 : ¬ wd.toInt = 11 := lv_neT q11 rfl
      have t12 : ¬ wd.toInt = 12 := lv_neT q12 rfl
      have t13 : ¬ wd.toInt = 13 := lv_neT q13 rfl
      have t14 : ¬ wd.toInt = 14 := lv_neT q14 rfl
      have t15 : ¬ wd.toInt = 15 := lv_neT q15 rfl
      have t16 : ¬ wd.toInt = 16 := lv_neT q16 rfl
      have t17 : ¬ wd.toInt = 17 := lv_neT q17 rfl
      have t18 : ¬ wd.toInt = 18 := lv_neT q18 rfl
      have t19 : ¬ wd.toInt = 19 := lv_neT q19 rfl
      have t20 : ¬ wd.toInt = 20 := lv_neT q20 rfl
      have t21 : ¬ wd.toInt = 21 := lv_neT q21 rfl
      have t22 : ¬ wd.toInt = 22 := lv_neT q22 rfl
      have t23 : ¬ wd.toInt = 23 := lv_neT q23 rfl
      have t24 : ¬ wd.toInt = 24 := lv_neT q24 rfl
      have t25 : ¬ wd.toInt = 25 := lv_neT q25 rfl
      have t26 : ¬ wd.toInt = 26 := lv_neT q26 rfl
      have t27 : ¬ wd.toInt = 27 := lv_neT q27 rfl
      refine lv_tableOut (tgt := 1004) hx hb dL_law_32 (by omega) (by decide) ?_
      exact kk x wn wa w0 w1 rd wr z jj lt u lm sj hI H locs ls hP hD hS hl
set_option maxHeartbeats 4000000 in
set_option maxRecDepth 100000 in
theorem KK_start {s : State} {args : Array Value} (hts : ∀ w ∈ lw_tbl, w.before args s = true) : ∃ G : gG, KK G s ∧ NN s ∧ AOs s := by
  have htl : ∀ w ∈ wsL_law, w.before args s = true := fun w h => hts w (wsL_law_in w h)
  have tb : ∀ {w : Cond} (i : Nat), tables_1[i]? = some w → w.before args s = true := fun i h => hts _ (List.mem_append_right _ (List.mem_of_getElem? h))
  obtain ⟨c0, i0, h0⟩ := u_known (C := RX0) (T := TX0) (N := 1) (n := 1) htl inlX0 (htl (.instantiable RX0 1) (List.mem_of_getElem? (i := 30) rfl))
  obtain ⟨c1, i1, h1⟩ := u_known (C := RX1) (T := TX1) (N := 10) (n := 10) htl inlX1 (htl (.instantiable RX1 10) (List.mem_of_getElem? (i := 22) rfl))
  obtain ⟨c2, i2, h2⟩ := u_known (C := RX2) (T := TX2) (N := 2) (n := 2) htl inlX2 (htl (.instantiable RX2 2) (List.mem_of_getElem? (i := 26) rfl))
  obtain ⟨c3, i3, h3⟩ := u_known (C := RX3) (T := TX3) (N := 9) (n := 9) htl inlX3 (htl (.instantiable RX3 9) (List.mem_of_getElem? (i := 14) rfl))
  obtain ⟨c4, i4, h4⟩ := u_known (C := RX4) (T := TX4) (N := 9) (n := 9) htl inlX4 (htl (.instantiable RX4 9) (List.mem_of_getElem? (i := 1) rfl))
  obtain ⟨c5, i5, h5⟩ := u_known (C := RX5) (T := TX5) (N := 38) (n := 38) htl inlX5 (htl (.instantiable RX5 38) (List.mem_of_getElem? (i := 4) rfl))
  have wI : (Cond.arrayClass .int).before args s = true := tb 63 (by decide +kernel)
  obtain ⟨aI, kI, mI, fI1, fI2, fI3⟩ := Cond.arrayClass_spec wI
  have wJ : (Cond.arrayClass .long).before args s = true := tb 125 (by decide +kernel)
  obtain ⟨aJ, kJ, mJ, fJ1, fJ2, fJ3⟩ := Cond.arrayClass_spec wJ
  have wZ : (Cond.arrayClass .boolean).before args s = true := tb 107 (by decide +kernel)
  obtain ⟨aZ, kZ, mZ, fZ1, fZ2, fZ3⟩ := Cond.arrayClass_spec wZ
  have wW : (Cond.arrayOver (.object "WovenHistory$Weave")).before args s = true := tb 64 (by decide +kernel)
  obtain ⟨mW, aW, kW, g1, g2, g3, g4, g5⟩ := Cond.arrayOver_spec wW
  have wL : (Cond.arrayOver (.array .long)).before args s = true := tb 115 (by decide +kernel)
  have hO : va_AOA .long s := va_AOA.of wL
  obtain ⟨mL, aL, kL, cm, l1, l2, l3, l4, l5⟩ := hO.spec
  refine ⟨(fun k => match k with | 0 => c0 | 1 => c1 | 2 => c2 | 3 => c3 | 4 => c4 | _ => c5, fun k => match k with | 0 => i0 | 1 => i1 | 2 => i2 | 3 => i3 | 4 => i4 | _ => i5, fun k => match k with | 0 => aI | 1 => aJ | 2 => aZ | 3 => aW | _ => aL), ⟨?_, ?_⟩, ⟨?_, ?_⟩, va_AO.of wW, hO⟩
  · intro k q hq
    match k, hq with
    | 0, hq => cases hq; exact h0
    | 1, hq => cases hq; exact h1
    | 2, hq => cases hq; exact h2
    | 3, hq => cases hq; exact h3
    | 4, hq => cases hq; exact h4
    | 5, hq => cases hq; exact h5
    | k + 6, hq => simp [vwCl] at hq
  · intro k q hq
    match k, hq with
    | 0, hq => cases hq; exact ⟨fun n z => ⟨fun k h => (by cases h), kI, fI2, mI, fI3⟩, fI1⟩
    | 1, hq => cases hq; exact ⟨fun n z => ⟨fun k h => (by cases h), kJ, fJ2, mJ, fJ3⟩, fJ1⟩
    | 2, hq => cases hq; exact ⟨fun n z => ⟨fun k h => (by cases h), kZ, fZ2, mZ, fZ3⟩, fZ1⟩
    | 3, hq => cases hq; exact ⟨fun n z => ⟨fun k h => (by cases h), kW, g3, mW, g4⟩, kW, mW, g3, g4, g1, g5⟩
    | 4, hq => cases hq; exact ⟨fun n z => ⟨fun k h => (by cases h), kL, l3, cm, l4⟩, l5⟩
    | k + 5, hq => simp [tyG] at hq
  · intro q hq
    unfold nF at hq
    rcases List.mem_cons.mp hq with rfl | hq
    · exact va_Nw.of rfl (tb 28 (by decide +kernel))
    rcases List.mem_cons.mp hq with rfl | hq
    · exact va_Nw.of rfl (tb 34 (by decide +kernel))
    rcases List.mem_cons.mp hq with rfl | hq
    · exact va_Nw.of rfl (tb 30 (by decide +kernel))
    rcases List.mem_cons.mp hq with rfl | hq
    · exact va_Nw.of rfl (tb 32 (by decide +kernel))
    rcases List.mem_cons.mp hq with rfl | hq
    · exact va_Nw.of rfl (tb 39 (by decide +kernel))
    rcases List.mem_cons.mp hq with rfl | hq
    · exact va_Nw.of rfl (tb 41 (by decide +kernel))
    rcases List.mem_cons.mp hq with rfl | hq
    · exact va_Nw.of rfl (tb 43 (by decide +kernel))
    rcases List.mem_cons.mp hq with rfl | hq
    · exact va_Nw.of rfl (tb 117 (by decide +kernel))
    rcases List.mem_cons.mp hq with rfl | hq
    · exact va_Nw.of rfl (tb 119 (by decide +kernel))
    rcases List.mem_cons.mp hq with rfl | hq
    · exact va_Nw.of rfl (tb 75 (by decide +kernel))
    rcases List.mem_cons.mp hq with rfl | hq
    · exact va_Nw.of rfl (tb 80 (by decide +kernel))
    rcases List.mem_cons.mp hq with rfl | hq
    · exact va_Nw.of rfl (tb 85 (by decide +kernel))
    rcases List.mem_cons.mp hq with rfl | hq
    · exact va_Nw.of rfl (tb 25 (by decide +kernel))
    rcases List.mem_cons.mp hq with rfl | hq
    · exact va_Nw.of rfl (tb 36 (by decide +kernel))
    rcases List.mem_cons.mp hq with rfl | hq
    · exact va_Nw.of rfl (tb 37 (by decide +kernel))
    rcases List.mem_cons.mp hq with rfl | hq
    · exact va_Nw.of rfl (tb 26 (by decide +kernel))
    exact absurd hq List.not_mem_nil
  · exact va_Nw.of rfl (tb 264 (by decide +kernel))
def sg0 : pS := (fun _ => 0, fun k => if k = 11 then (fun _ => -1) else (fun _ => 0))
theorem LI0 : LI x0 o0 o0 o0 o0 rd0 z0 jj0 u0 (fun _ => 0) := by
  have hp : ∀ f, parOK f 0 := fun f i hi => absurd hi (Nat.not_lt_zero i)
  refine ⟨sg0, fun _ _ => 0, ?_, ?_, ?_⟩
  · exact ⟨Nat.zero_le _, Nat.zero_le _, Nat.zero_le _, fun e => absurd e (show ¬ (0 : Nat) = 1 by decide), hp _, Nat.zero_le _, fun i hi => absurd hi (Nat.not_lt_zero i), Nat.zero_le _, ⟨Nat.zero_le _, Nat.zero_le _, hp _⟩, ⟨Nat.zero_le _, Nat.zero_le _, hp _⟩, fun j hj => Nat.zero_le _⟩
  · exact ⟨⟨rfl, rfl, rwE_0 _ _, rwE_0 _ _, rwE_0 _ _, fun i hi => absurd hi (Nat.not_lt_zero i), rwE_0 _ _, rwE_0 _ _, rwE_0 _ _⟩, rfl, fun e => absurd e (show ¬ (0 : Nat) = 1 by decide), rfl, rwE_0 _ _, rfl, Or.inl ⟨rfl, rfl⟩, Or.inl ⟨rfl, rfl⟩, four (Or.inl ⟨rfl, rfl⟩) (Or.inl ⟨rfl, rfl⟩) (Or.inl ⟨rfl, rfl⟩) (Or.inl ⟨rfl, rfl⟩)⟩
  · exact ⟨⟨rfl, rfl, rwE_0 _ _, rwE_0 _ _, rwE_0 _ _, rwE_0 _ _, rwE_0 _ _, rwE_0 _ _⟩, rfl, rfl, rwE_0 _ _, rfl, fun e => absurd e (show ¬ (0 : Nat) = 1 by decide), ⟨0, Nat.zero_le _, rfl⟩, Or.inl ⟨rfl, rfl⟩, Or.inl ⟨rfl, rfl⟩, four (Or.inl ⟨rfl, rfl, 0, Nat.zero_le _, rfl⟩) (Or.inl ⟨rfl, rfl, 0, Nat.zero_le _, rfl⟩) (Or.inl ⟨rfl, rfl, 0, Nat.zero_le _, rfl⟩) (Or.inl ⟨rfl, rfl, 0, Nat.zero_le _, rfl⟩)⟩
set_option maxHeartbeats 4000000 in
set_option maxRecDepth 100000 in
theorem whole_start {p : Program} {e : Env} {s : State} {m : MethodId} {below : List Frame} {meth : Method} {c : Code} (l : Launch) (hflags : l.flags = flags0) {b L : Nat} {xs : Nat → Int32} (hL : L ≤ 2560) (C0 : lw_At p s m meth c b L xs) : W p l e room_1 s m #[Value.ref b] below meth c s.heap [] 0 0 (lw_Z below #[Value.ref b] s) (entryFrame m ([Value.ref b] : List Value).toArray 4) := by
  obtain ⟨hx, hb, hr, hml, hown, hts, hX, hbl, hlocks, hgv⟩ := id C0
  obtain ⟨G, hK, hN, hAO⟩ := KK_start hts
  have htl : ∀ w ∈ wsL_law, w.before #[Value.ref b] s = true := fun w h => hts w (wsL_law_in w h)
  have hown : s.vm.findClass RL = some m.cls := hown
  have hA : ∀ q : Nat, s.heap.size ≤ q → (fun q : Nat => s.heap.size ≤ q) q := fun _ h => h
  have hS : va_S (fun q : Nat => s.heap.size ≤ q) s.heap s.heap [] := va_S.rf
  have hP : PP G [] s.heap := fun k q h => by simp at h
  have hD : va_D (fun q : Nat => s.heap.size ≤ q) [] := ⟨fun i j p q h => by simp at h, fun k q h => by simp at h⟩
  have hl := lv_entry ([.ref b]) (n := 4) (Nat.le_of_ble_eq_true rfl)
  rw [lg_entry_eq]
  generalize (lg_sl ([.ref b]) ++ List.replicate (4 - (lg_sl ([.ref b])).length) Slot.unset).toArray = ls at hl ⊢
  have hl : lv_has ls 4 [(0, .ref b)] := hl
  refine va_new (ci := 4) (fs := [.null, .null, .null, .null, .null, .null, .null, .int 0, .int 0]) (C := RX4) (T := TX4) (N := 9) hx hb htl inlX4 tyX4 tyX4_ok hown (htl (.classLink RL 7 RX4) (List.mem_of_getElem? (i := 0) rfl)) (htl (.instantiable RX4 9) (List.mem_of_getElem? (i := 1) rfl)) (htl (.initialized RX4) (List.mem_of_getElem? (i := 2) rfl)) hK hP hD hS hA rfl (fun j hj => by rcases (show j = 0 ∨ j = 1 ∨ j = 2 ∨ j = 3 ∨ j = 4 ∨ j = 5 ∨ j = 6 ∨ j = 7 ∨ j = 8 by omega) with rfl | rfl | rfl | rfl | rfl | rfl | rfl | rfl | rfl <;> rfl) (Nat.le_of_ble_eq_true rfl) (Nat.le_of_ble_eq_true rfl) dL_law_0 (fun qx H hP hD hS => ?_)
  have hP : PP G ([(qx, .inr (4, [.null, .null, .null, .null, .null, .null, .null, .int 0, .int 0]))]) H := hP
  have hD : va_D (fun q : Nat => s.heap.size ≤ q) ([(qx, .inr (4, [.null, .null, .null, .null, .null, .null, .null, .int 0, .int 0]))]) := hD
  refine lv_dup hx hb dL_law_3 rfl ?_
  have hPc := hP.sub (ws' := [(qx, .inr (4, [.null, .null, .null, .null, .null, .null, .null, .int 0, .int 0]))]) [0] rfl
  have hDc := hD.sub (ws' := [(qx, .inr (4, [.null, .null, .null, .null, .null, .null, .null, .int 0, .int 0]))]) [0] (by decide) rfl
  have hFc := va_free (wc := [(qx, .inr (4, [.null, .null, .null, .null, .null, .null, .null, .int 0, .int 0]))]) hD hS hA [0] rfl
  refine va_callv (va_runI (As := []) (rest := [.ref qx]) ⟨hx, hb, hml, hown, htl⟩ (in_X4 l G H.size qx) (cwI 0 htl gL_law_X4_init rfl rfl rfl (htl (.initialized RX4) (List.mem_of_getElem? (i := 2) rfl)) (htl (.methodLink RL 9 yX4_init) (List.mem_of_getElem? (i := 7) rfl)) (htl (.instanceMethod yX4_init) (List.mem_of_getElem? (i := 8) rfl)) rfl (by decide +kernel) ⟨Nat.le_of_ble_eq_true rfl, Nat.le_of_ble_eq_true rfl⟩) ⟨preI_blind, fun U hU hW => ⟨rfl, by rw [hU], by rw [hU]; exact hPc, va_K.moved hW.alike hK, hAO.moved hW.alike, hDc.weaken (fun _ _ _ _ => trivial)⟩⟩ rfl rfl hl.1 rfl (lv_room (Nat.le_of_ble_eq_true rfl)) dL_law_4 ⟨Nat.le_of_ble_eq_true rfl, Nat.le_of_ble_eq_true rfl⟩) hS (fun q _ h => hFc q h) hFc (fun ax t H1 locs ht hvm hw hB hz1 hk1 hS => ?_)
  obtain ⟨hP1, hD1⟩ := hB
  rw [ht] at hP1
  obtain ⟨hP2, hD2⟩ := va_join (wr := []) (w1 := xw G ax x0 o0 o0 o0 o0 rd0 o0 z0 jj0 1) hP hD [0] [] rfl rfl (by decide) (by decide) hk1 hFc hP1 hD1
  clear hPc hDc hFc hP1 hD1 hk1 hz1 hvm hP hD
  generalize H1 = H at hP2 hS ⊢
  subst hw
  have hP := hP2
  have hD := hD2
  clear hP2 hD2
  have hP : PP G (xw G ax x0 o0 o0 o0 o0 rd0 o0 z0 jj0 1) H := hP
  have hD : va_D (fun q : Nat => s.heap.size ≤ q) (xw G ax x0 o0 o0 o0 o0 rd0 o0 z0 jj0 1) := hD
  refine lv_astore_n (lv' := [(1, .ref (ax 0)), (0, .ref b)]) hx hb dL_law_7 rfl hl (by decide) rfl (fun ls hl => ?_)
  refine va_new (ci := 5) (fs := [.int 0, .null, .null, .null, .int 0, .null, .null, .null, .int 0, .null, .int 0, .int 0, .int 0, .int 0, .int 0, .int 0, .null, .null, .null, .int 0, .null, .null, .null, .int 0, .null, .null, .null, .int 0, .null, .null, .null, .long 0, .null, .null, .null, .null, .null, .null]) (C := RX5) (T := TX5) (N := 38) hx hb htl inlX5 tyX5 tyX5_ok hown (htl (.classLink RL 10 RX5) (List.mem_of_getElem? (i := 3) rfl)) (htl (.instantiable RX5 38) (List.mem_of_getElem? (i := 4) rfl)) (htl (.initialized RX5) (List.mem_of_getElem? (i := 5) rfl)) hK hP hD hS hA rfl (fun j hj => by rcases (show j = 0 ∨ j = 1 ∨ j = 2 ∨ j = 3 ∨ j = 4 ∨ j = 5 ∨ j = 6 ∨ j = 7 ∨ j = 8 ∨ j = 9 ∨ j = 10 ∨ j = 11 ∨ j = 12 ∨ j = 13 ∨ j = 14 ∨ j = 15 ∨ j = 16 ∨ j = 17 ∨ j = 18 ∨ j = 19 ∨ j = 20 ∨ j = 21 ∨ j = 22 ∨ j = 23 ∨ j = 24 ∨ j = 25 ∨ j = 26 ∨ j = 27 ∨ j = 28 ∨ j = 29 ∨ j = 30 ∨ j = 31 ∨ j = 32 ∨ j = 33 ∨ j = 34 ∨ j = 35 ∨ j = 36 ∨ j = 37 by omega) with rfl | rfl | rfl | rfl | rfl | rfl | rfl | rfl | rfl | rfl | rfl | rfl | rfl | rfl | rfl | rfl | rfl | rfl | rfl | rfl | rfl | rfl | rfl | rfl | rfl | rfl | rfl | rfl | rfl | rfl | rfl | rfl | rfl | rfl | rfl | rfl | rfl | rfl <;> rfl) (Nat.le_of_ble_eq_true rfl) (Nat.le_of_ble_eq_true rfl) dL_law_8 (fun qm H hP hD hS => ?_)
  have hP : PP G (xw G ax x0 o0 o0 o0 o0 rd0 o0 z0 jj0 1 ++ [(qm, .inr (5, [.int 0, .null, .null, .null, .int 0, .null, .null, .null, .int 0, .null, .int 0, .int 0, .int 0, .int 0, .int 0, .int 0, .null, .null, .null, .int 0, .null, .null, .null, .int 0, .null, .null, .null, .int 0, .null, .null, .null, .long 0, .null, .null, .null, .null, .null, .null]))]) H := hP
  have hD : va_D (fun q : Nat => s.heap.size ≤ q) (xw G ax x0 o0 o0 o0 o0 rd0 o0 z0 jj0 1 ++ [(qm, .inr (5, [.int 0, .null, .null, .null, .int 0, .null, .null, .null, .int 0, .null, .int 0, .int 0, .int 0, .int 0, .int 0, .int 0, .null, .null, .null, .int 0, .null, .null, .null, .int 0, .null, .null, .null, .int 0, .null, .null, .null, .long 0, .null, .null, .null, .null, .null, .null]))]) := hD
  refine lv_dup hx hb dL_law_11 rfl ?_
  have hPc := hP.sub (ws' := [(qm, .inr (5, [.int 0, .null, .null, .null, .int 0, .null, .null, .null, .int 0, .null, .int 0, .int 0, .int 0, .int 0, .int 0, .int 0, .null, .null, .null, .int 0, .null, .null, .null, .int 0, .null, .null, .null, .int 0, .null, .null, .null, .long 0, .null, .null, .null, .null, .null, .null]))]) [55] rfl
  have hDc := hD.sub (ws' := [(qm, .inr (5, [.int 0, .null, .null, .null, .int 0, .null, .null, .null, .int 0, .null, .int 0, .int 0, .int 0, .int 0, .int 0, .int 0, .null, .null, .null, .int 0, .null, .null, .null, .int 0, .null, .null, .null, .int 0, .null, .null, .null, .long 0, .null, .null, .null, .null, .null, .null]))]) [55] (by decide) rfl
  have hFc := va_free (wc := [(qm, .inr (5, [.int 0, .null, .null, .null, .int 0, .null, .null, .null, .int 0, .null, .int 0, .int 0, .int 0, .int 0, .int 0, .int 0, .null, .null, .null, .int 0, .null, .null, .null, .int 0, .null, .null, .null, .int 0, .null, .null, .null, .long 0, .null, .null, .null, .null, .null, .null]))]) hD hS hA [55] rfl
  refine va_callv (va_runI (As := []) (rest := [.ref qm]) ⟨hx, hb, hml, hown, htl⟩ (in_X5 l G H.size qm) (cwI 0 htl gL_law_X5_init rfl rfl rfl (htl (.initialized RX5) (List.mem_of_getElem? (i := 5) rfl)) (htl (.methodLink RL 12 yX5_init) (List.mem_of_getElem? (i := 78) rfl)) (htl (.instanceMethod yX5_init) (List.mem_of_getElem? (i := 79) rfl)) rfl (by decide +kernel) ⟨Nat.le_of_ble_eq_true rfl, Nat.le_of_ble_eq_true rfl⟩) ⟨preI_blind, fun U hU hW => ⟨rfl, by rw [hU], by rw [hU]; exact hPc, va_K.moved hW.alike hK, hAO.moved hW.alike, hDc.weaken (fun _ _ _ _ => trivial)⟩⟩ rfl rfl hl.1 rfl (lv_room (Nat.le_of_ble_eq_true rfl)) dL_law_12 ⟨Nat.le_of_ble_eq_true rfl, Nat.le_of_ble_eq_true rfl⟩) hS (fun q _ h => hFc q h) hFc (fun am t H1 locs ht hvm hw hB hz1 hk1 hS => ?_)
  obtain ⟨hP1, hD1⟩ := hB
  rw [ht] at hP1
  obtain ⟨hP2, hD2⟩ := va_join (wr := xw G ax x0 o0 o0 o0 o0 rd0 o0 z0 jj0 1) (w1 := mw G am u0 0 (fun _ => 0)) hP hD [55] [0, 1, 2, 3, 4, 5, 6, 7, 8, 9, 10, 11, 12, 13, 14, 15, 16, 17, 18, 19, 20, 21, 22, 23, 24, 25, 26, 27, 28, 29, 30, 31, 32, 33, 34, 35, 36, 37, 38, 39, 40, 41, 42, 43, 44, 45, 46, 47, 48, 49, 50, 51, 52, 53, 54] rfl rfl (by decide) (by decide) hk1 hFc hP1 hD1
  clear hPc hDc hFc hP1 hD1 hk1 hz1 hvm hP hD
  generalize H1 = H at hP2 hS ⊢
  subst hw
  have hP := hP2
  have hD := hD2
  clear hP2 hD2
  have hP : PP G (LWd G ax am x0 o0 o0 o0 o0 rd0 o0 z0 jj0 1 u0 0 (fun _ => 0)) H := hP
  have hD : va_D (fun q : Nat => s.heap.size ≤ q) (LWd G ax am x0 o0 o0 o0 o0 rd0 o0 z0 jj0 1 u0 0 (fun _ => 0)) := hD
  refine lv_astore_n (lv' := [(2, .ref (am 0)), (1, .ref (ax 0)), (0, .ref b)]) hx hb dL_law_15 rfl hl (by decide) rfl (fun ls hl => ?_)
  refine lv_iconst (v := nI 0) hx hb dL_law_16 (by decide) ?_
  refine lv_istore_n (lv' := [(3, .int (nI 0)), (2, .ref (am 0)), (1, .ref (ax 0)), (0, .ref b)]) hx hb dL_law_17 rfl hl (by decide) rfl (fun ls hl => ?_)
  refine W.widen (k := 81) (n := 5901) (Nat.le_of_ble_eq_true rfl) (Nat.le_of_ble_eq_true rfl) ?_
  exact law_loop C0 hK hN hL (L + 1) 0 (Nat.zero_le _) (by omega) x0 o0 o0 o0 o0 rd0 o0 z0 jj0 1 u0 0 (fun _ => 0) LI0 H locs ls hP hD hS (lv_sub hl [3, 2, 1, 0] rfl)
set_option maxHeartbeats 4000000 in
theorem lw_walk (l : Launch) (hflags : l.flags = flags0) (b : Addr) (xs : List Int32) : MetFree l x (headSpec (Jvm.Cond.code x code maxLocals ret :: tables_1) room_1) (lw_P b xs) (fun _ _ _ _ _ => True) lw_Q := by
  refine MetFree.of_bodyS (code := code) (maxLocals := maxLocals) (ret := ret) (by decide) ?_ ?_
  · intro args s m h hn
    obtain ⟨meth, c, h1, h2, h3, h4, h5, h6, -, -⟩ := Cond.code_spec hn (atoms_spec (ws := Jvm.Cond.code x code maxLocals ret :: tables_1) h _ List.mem_cons_self)
    exact ⟨meth, c, h1, h2, h3, h4, h5, h6⟩
  · intro p e s m args below meth c s₁ B hml0 hP _
    obtain ⟨rfl, hx, hbd, hgv⟩ := hP
    obtain ⟨scr, harrAt, hlist, hof, hsmall⟩ := hx
    obtain ⟨hcb, hkn, -, -⟩ := State.arrayAt?_spec harrAt
    have hown : s.vm.findClass R_law = some m.cls := findClass_of_methodNamed B.named
    have hts0 : ∀ c ∈ (Jvm.Cond.code x code maxLocals ret :: tables_1), c.before #[Value.ref b] s = true := atoms_spec (ws := Jvm.Cond.code x code maxLocals ret :: tables_1) B.pre
    have hts : ∀ w ∈ lw_tbl, w.before #[Value.ref b] s = true := k2_hts_sels lw_privs (fun w hw => hts0 w (List.mem_cons_of_mem _ hw)) lw_privs_ok
    have hml : c.maxLocals = 4 := B.maxLocals_eq (hts0 _ List.mem_cons_self)
    have X₀ : Stand p l e room_1 s m #[Value.ref b] below meth c s₁ [] 0 0 := Stand.of_body B
    have hh0 : s₁.heap = s.heap := by rw [B.state]; rfl
    have hsz : scr.slots.size = xs.length := by rw [← Array.length_toList, hlist, List.length_map]
    have hval : ∀ j : Nat, j < xs.length → scr.slots[j]? = some (.int (xs.getD j 0)) := fun j hj => by
      rw [← Array.getElem?_toList, hlist]
      simp [hj]
    have hbl : b < s.heap.size := (Array.getElem?_eq_some_iff.mp hcb).1
    have hX : va_X b xs.length (fun j => xs.getD j 0) s s.heap := ⟨scr, hcb, hof, hkn, hsz, hval⟩
    have K : W p l e room_1 s m #[Value.ref b] below meth c s₁.heap [] 0 0 (lw_Z below #[Value.ref b] s) (entryFrame m ([Value.ref b] : List Value).toArray 4) := by
      rw [hh0]
      exact whole_start l hflags hbd ⟨B.exec, B.bytes, B.returns, hml, hown, hts, hX, hbl, B.notSynchronized, hgv⟩
    obtain ⟨t, a1, o, b1, b2, b3⟩ := K s₁ rfl X₀
    exact ⟨t, o, a1, b1, b2, b3⟩
theorem lw_pre_spec {args : Array Value} {s : State} (h : (Jvm.Cond.and given_1 narrow_1).before args s = true) (hr : rest_1_c.before args s = true) : ∃ (b : Addr) (xs : List Int32), lw_P b xs args s := by
  have hs := flat_of_before _ h
  have hq := flat_of_before _ hr
  have hc : (Cond.count 1).before args s = true := hs _ (by decide +kernel)
  have harr : (Cond.arrayOf (.arg 0) .int).before args s = true := hs _ (by decide +kernel)
  have hle : (Cond.le (.length (.arg 0)) (.int 2560)).before args s = true := hs _ (by decide +kernel)
  have hlen : (Cond.isInt (.length (.arg 0))).before args s = true := hq _ (by decide +kernel)
  have hall : (Cond.all (.arg 0) (.isInt (.elem (.arg 0) (.index 0)))).before args s = true := hq _ (by decide +kernel)
  obtain ⟨b, xs, hb, hx⟩ := State.ints_of_pre rfl harr hlen hall
  have hsm : xs.length < 2 ^ 31 := hx.choose_spec.2.2.2
  have hev : (Term.length (.arg 0)).eval args s none [] s = some (.int xs.length.toInt32) := hx.length_eval hb
  have hv := Cond.le_ints hev (show (Term.int 2560).eval args s none [] s = some (.int 2560) from rfl)
  have hd : xs.length.toInt32 ≤ 2560 := by
    simpa [Cond.before, Cond.holds, hv] using hle
  have hN : xs.length ≤ 2560 := (Int32.ofNat_le_ofNat hsm (by decide)).mp (show Int32.ofNat xs.length ≤ Int32.ofNat 2560 from hd)
  exact ⟨b, xs, Cond.one_arg hc (show args[0]? = some (.ref b) from hb), hx, hN, h⟩
theorem lw_comes (l : Launch) (hflags : l.flags = flags0) : Comes l x (Jvm.Cond.code x code maxLocals ret :: tables_1) room_1 (fun tb e args s => Calls_1 tb e args s ∧ rest_1 tb e args s ∧ Pre_1 tb e args s)
    (fun _ _ args s o t => lw_Q args s o t) := by
  intro p e ha hc hk s m args below hf hfit hheap happ hpre
  obtain ⟨b, xs, hP⟩ := lw_pre_spec hpre.2.2 hpre.2.1
  obtain ⟨k, o, h1, h2, h3, hQ⟩ := lw_walk l hflags b xs p e ha hc hk s m args below hf ((Spec.applies_iff_loose hf).mp happ).1 hP trivial
  exact ⟨k, o, h1, h2, h3, hQ⟩
theorem lw_frame {s t : State} {o : Outcome} {args : Array Value} (h : Framed s o t [] 600000 7302249) :
    Framed s o t (fieldLocs frame_1_writes args s ++ arrayLocs frame_1_arrays args s ++ staticLocs frame_1_statics s) 600000 7302249 := h
theorem lw_limb (L : Cond) (hL : ∀ (args : Array Value) (s t : State), L.after args s (.returned (some (.int 1))) t = true) :
    ArmFor flags0 classFile x code maxLocals ret World_1 tables_1 room_1 Calls_1 rest_1 Pre_1
      (fun tb e a s o t => postC L tb e a s o t ∧ Framed s o t (fieldLocs frame_1_writes a s ++ arrayLocs frame_1_arrays a s ++ staticLocs frame_1_statics s) 600000 7302249) := by
  intro l hflags _ _ p e ha hc hk s m args below hf hfit hheap happ hpre
  obtain ⟨k, o, h1, h2, h3, rfl, hF⟩ := lw_comes l hflags p e ha hc hk s m args below hf hfit hheap happ hpre
  exact ⟨k, _, h1, h2, h3, hL args s _, lw_frame hF⟩
theorem i_vc : Claimed_1_1 ∧ Claimed_1_2 := ⟨lw_limb limb_1_1 (fun args s t => by simp [limb_1_1, Cond.after, Cond.holds, Cond.value]), lw_limb limb_1_2 (fun args s t => Cond.after_iff.mpr (by
  first | (rw [show limb_1_2 = Cond.eq .result (.int 1) from rfl, Cond.eq_ints (x := 1) (y := 1) rfl rfl]; simp; done) | (simp [limb_1_2, Cond.value, Term.eval]; done)))⟩

