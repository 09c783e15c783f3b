/-! the class's own world out of the pieces that its constructor made -/
theorem PP_mem {G : gG} {ws ws' : va_W} {H : Heap} (hP : PP G ws H) (h : ∀ x ∈ ws', x ∈ ws) : PP G ws' H := by
  intro k x hx
  obtain ⟨j, hj⟩ := List.getElem?_of_mem (h x (List.mem_of_getElem? hx))
  exact hP j x hj
theorem PP_ap {G : gG} {wA wB : va_W} {H : Heap} (hA : PP G wA H) (hB : PP G wB H) : PP G (wA ++ wB) H := by
  intro k x hx
  rcases List.mem_append.mp (List.mem_of_getElem? hx) with h | h
  · obtain ⟨j, hj⟩ := List.getElem?_of_mem h
    exact hA j x hj
  · obtain ⟨j, hj⟩ := List.getElem?_of_mem h
    exact hB j x hj
theorem PP_L {G : gG} {wA wB : va_W} {H : Heap} (hP : PP G (wA ++ wB) H) : PP G wA H := PP_mem hP (fun _ h => List.mem_append_left _ h)
theorem PP_R {G : gG} {wA wB : va_W} {H : Heap} (hP : PP G (wA ++ wB) H) : PP G wB H := PP_mem hP (fun _ h => List.mem_append_right _ h)
theorem vaD_nd {A : Nat → Prop} {ws : va_W} (h : va_D A ws) : (ws.map Prod.fst).Nodup := by
  rw [List.nodup_iff_pairwise_ne, List.pairwise_iff_getElem]
  intro i j hi hj hij e
  have hi' : i < ws.length := by rw [List.length_map] at hi; exact hi
  have hj' : j < ws.length := by rw [List.length_map] at hj; exact hj
  rw [List.getElem_map, List.getElem_map] at e
  have := h.1 i j ws[i] ws[j] (List.getElem?_eq_getElem hi') (List.getElem?_eq_getElem hj') e
  omega
theorem vaD_A {A : Nat → Prop} {ws : va_W} (h : va_D A ws) : ∀ a ∈ ws.map Prod.fst, A a := by
  intro a ha
  obtain ⟨x, hx, rfl⟩ := List.mem_map.mp ha
  obtain ⟨k, hk⟩ := List.getElem?_of_mem hx
  exact h.2 k x hk
theorem vaD_of {A : Nat → Prop} {ws : va_W} (hn : (ws.map Prod.fst).Nodup) (hA : ∀ a ∈ ws.map Prod.fst, A a) : va_D A ws := by
  refine ⟨fun i j p q hi hj e => ?_, fun k q hk => hA _ (List.mem_map.mpr ⟨q, List.mem_of_getElem? hk, rfl⟩)⟩
  have h1 : (ws.map Prod.fst)[i]? = some p.1 := by rw [List.getElem?_map, hi]; rfl
  have h2 : (ws.map Prod.fst)[j]? = some q.1 := by rw [List.getElem?_map, hj]; rfl
  have hl : i < (ws.map Prod.fst).length := by
    rcases Nat.lt_or_ge i (ws.map Prod.fst).length with g | g
    · exact g
    · rw [List.getElem?_eq_none g] at h1
      cases h1
  exact (List.getElem?_inj hl hn).mp (by rw [h1, h2, e])
theorem vaD_perm {A : Nat → Prop} {ws ws' : va_W} (h : va_D A ws) (hp : (ws.map Prod.fst).Perm (ws'.map Prod.fst)) : va_D A ws' := vaD_of (hp.nodup (vaD_nd h)) (fun a ha => vaD_A h a (hp.mem_iff.mpr ha))
def wvA (h : Nat → Nat) : List Nat := [h 0, h 1, h 2, h 3, h 4, h 6, h 7, h 8]
def rvA (h : Nat → Nat) : List Nat := [h 0, h 1, h 7, h 8] ++ wvA (fun k => h (10 + k))
def svA (h : Nat → Nat) : List Nat := [h 0, h 1, h 2, h 3, h 4, h 5, h 6]
theorem wv_fst (G : gG) (h : Nat → Nat) (w : oS) : (wv G h w).map Prod.fst = wvA h := rfl
theorem rv_fst (G : gG) (h : Nat → Nat) (r w : oS) : (rv G h r w).map Prod.fst = rvA h := by
  unfold rv rvA
  rw [List.map_append, wv_fst]
  rfl
theorem sv_fst (G : gG) (h : Nat → Nat) (z : oS) (jj : Nat → Nat → Int64) : (sv G h z jj).map Prod.fst = svA h := rfl
theorem wv_h {G : gG} {h f : Nat → Nat} {w : oS} (e : ∀ k, k < 9 → h k = f k) : wv G h w = wv G f w := by
  unfold wv
  rw [e 0 (by omega), e 1 (by omega), e 2 (by omega), e 3 (by omega), e 4 (by omega), e 6 (by omega), e 7 (by omega), e 8 (by omega)]
theorem wvA_h {h f : Nat → Nat} (e : ∀ k, k < 9 → h k = f k) : wvA h = wvA f := by
  unfold wvA
  rw [e 0 (by omega), e 1 (by omega), e 2 (by omega), e 3 (by omega), e 4 (by omega), e 6 (by omega), e 7 (by omega), e 8 (by omega)]
theorem rv_h {G : gG} {h f : Nat → Nat} {r w : oS} (e : ∀ k, k < 19 → h k = f k) : rv G h r w = rv G f r w := by
  unfold rv
  rw [wv_h (h := fun k => h (10 + k)) (f := fun k => f (10 + k)) (fun k hk => e (10 + k) (by omega)), e 0 (by omega), e 1 (by omega), e 7 (by omega), e 8 (by omega), e 10 (by omega)]
theorem rvA_h {h f : Nat → Nat} (e : ∀ k, k < 19 → h k = f k) : rvA h = rvA f := by
  unfold rvA
  rw [wvA_h (h := fun k => h (10 + k)) (f := fun k => f (10 + k)) (fun k hk => e (10 + k) (by omega)), e 0 (by omega), e 1 (by omega), e 7 (by omega), e 8 (by omega)]
theorem svA_h {h f : Nat → Nat} (e : ∀ k, k < 7 → h k = f k) : svA h = svA f := by
  unfold svA
  rw [e 0 (by omega), e 1 (by omega), e 2 (by omega), e 3 (by omega), e 4 (by omega), e 5 (by omega), e 6 (by omega)]
theorem PP_sv {G : gG} {h f : Nat → Nat} {z : oS} {jj : Nat → Nat → Int64} {H : Heap} (e : ∀ k, k < 7 → h k = f k) (hP : PP G (sv G f z jj) H) : PP G (sv G h z jj) H := by
  have h1 := PP_seti (g := fun i => some (h (3 + i))) hP 1 rfl (fun i hi => by rw [e (3 + i) (by omega)])
  unfold sv at h1 ⊢
  rw [e 0 (by omega), e 1 (by omega), e 2 (by omega), e 3 (by omega), e 4 (by omega), e 5 (by omega), e 6 (by omega)]
  exact h1
theorem pm3 (b q r : Nat) (X Y Z : List Nat) : (b :: (X ++ q :: (Y ++ r :: Z))).Perm (b :: q :: r :: (X ++ (Y ++ Z))) := by
  refine List.Perm.cons b (List.perm_middle.trans (List.Perm.cons q ?_))
  have h := List.perm_middle (a := r) (l₁ := X ++ Y) (l₂ := Z)
  rw [List.append_assoc, List.append_assoc] at h
  exact h
def hX (b q5 q10 : Nat) (f2 f4 f7 f9 f12 f14 f16 : Nat → Nat) (k : Nat) : Nat :=
  if k < 10 then (if k = 0 then b else if k = 2 then q5 else q10) else if k < 20 then f2 (k - 10) else if k < 30 then f4 (k - 20) else if k < 40 then f7 (k - 30) else if k < 50 then f9 (k - 40) else if k < 70 then f12 (k - 50) else if k < 80 then f14 (k - 70) else f16 (k - 80)
section HX
variable {b q5 q10 : Nat} {f2 f4 f7 f9 f12 f14 f16 : Nat → Nat}
theorem hX_1 (k : Nat) (h : k < 10) : hX b q5 q10 f2 f4 f7 f9 f12 f14 f16 (10 + k) = f2 k := by
  unfold hX
  rw [if_neg (by omega), if_pos (by omega), show 10 + k - 10 = k by omega]
theorem hX_2 (k : Nat) (h : k < 10) : hX b q5 q10 f2 f4 f7 f9 f12 f14 f16 (20 + k) = f4 k := by
  unfold hX
  rw [if_neg (by omega), if_neg (by omega), if_pos (by omega), show 20 + k - 20 = k by omega]
theorem hX_3 (k : Nat) (h : k < 10) : hX b q5 q10 f2 f4 f7 f9 f12 f14 f16 (30 + k) = f7 k := by
  unfold hX
  rw [if_neg (by omega), if_neg (by omega), if_neg (by omega), if_pos (by omega), show 30 + k - 30 = k by omega]
theorem hX_4 (k : Nat) (h : k < 10) : hX b q5 q10 f2 f4 f7 f9 f12 f14 f16 (40 + k) = f9 k := by
  unfold hX
  rw [if_neg (by omega), if_neg (by omega), if_neg (by omega), if_neg (by omega), if_pos (by omega), show 40 + k - 40 = k by omega]
theorem hX_5 (k : Nat) (h : k < 20) : hX b q5 q10 f2 f4 f7 f9 f12 f14 f16 (50 + k) = f12 k := by
  unfold hX
  rw [if_neg (by omega), if_neg (by omega), if_neg (by omega), if_neg (by omega), if_neg (by omega), if_pos (by omega), show 50 + k - 50 = k by omega]
theorem hX_7 (k : Nat) (h : k < 10) : hX b q5 q10 f2 f4 f7 f9 f12 f14 f16 (70 + k) = f14 k := by
  unfold hX
  rw [if_neg (by omega), if_neg (by omega), if_neg (by omega), if_neg (by omega), if_neg (by omega), if_neg (by omega), if_pos (by omega), show 70 + k - 70 = k by omega]
theorem hX_8 : hX b q5 q10 f2 f4 f7 f9 f12 f14 f16 80 = f16 0 := by
  unfold hX
  rw [if_neg (by omega), if_neg (by omega), if_neg (by omega), if_neg (by omega), if_neg (by omega), if_neg (by omega), if_neg (by omega)]
theorem hX_0 : hX b q5 q10 f2 f4 f7 f9 f12 f14 f16 0 = b := by
  unfold hX
  rw [if_pos (by omega), if_pos rfl]
theorem hX_a2 : hX b q5 q10 f2 f4 f7 f9 f12 f14 f16 2 = q5 := by
  unfold hX
  rw [if_pos (by omega), if_neg (by omega), if_pos rfl]
theorem hX_a3 : hX b q5 q10 f2 f4 f7 f9 f12 f14 f16 3 = q10 := by
  unfold hX
  rw [if_pos (by omega), if_neg (by omega), if_neg (by omega)]
end HX
def xsrc (G : gG) (b q5 q10 : Nat) (f2 f4 f7 f9 f12 f14 f16 : Nat → Nat) : va_W := [(b, .inr (4, [.ref (f2 0), .ref (f4 0), .ref q5, .ref q10, .ref (f12 0), .ref (f14 0), .ref (f16 0), .int (nI 0), .int ((-1 : Int32))]))] ++ (wv G f2 o0) ++ (wv G f4 o0) ++ [(q5, .inl (G.2.2 3, 2, .inr (.inr (.inr (.inr (va_up (va_up (fun _ => none) 0 (some (f7 0))) 1 (some (f9 0))))))))] ++ (wv G f7 o0) ++ (wv G f9 o0) ++ [(q10, .inl (G.2.2 2, 2, .inl (fun _ => 0)))] ++ (rv G f12 rd0 o0) ++ (sv G f14 z0 jj0) ++ (tv G f16 1)
theorem xw_mk {G : gG} {A : Nat → Prop} {H : Heap} {b q5 q10 : Nat} {f2 f4 f7 f9 f12 f14 f16 : Nat → Nat} (hP : PP G (xsrc G b q5 q10 f2 f4 f7 f9 f12 f14 f16) H) (hD : va_D A (xsrc G b q5 q10 f2 f4 f7 f9 f12 f14 f16)) :
    ∃ h : Nat → Nat, h 0 = b ∧ PP G (xw G h x0 o0 o0 o0 o0 rd0 o0 z0 jj0 1) H ∧ va_D A (xw G h x0 o0 o0 o0 o0 rd0 o0 z0 jj0 1) := by
  have e10 := hX_1 (b := b) (q5 := q5) (q10 := q10) (f2 := f2) (f4 := f4) (f7 := f7) (f9 := f9) (f12 := f12) (f14 := f14) (f16 := f16)
  have e20 := hX_2 (b := b) (q5 := q5) (q10 := q10) (f2 := f2) (f4 := f4) (f7 := f7) (f9 := f9) (f12 := f12) (f14 := f14) (f16 := f16)
  have e30 := hX_3 (b := b) (q5 := q5) (q10 := q10) (f2 := f2) (f4 := f4) (f7 := f7) (f9 := f9) (f12 := f12) (f14 := f14) (f16 := f16)
  have e40 := hX_4 (b := b) (q5 := q5) (q10 := q10) (f2 := f2) (f4 := f4) (f7 := f7) (f9 := f9) (f12 := f12) (f14 := f14) (f16 := f16)
  have e50 := hX_5 (b := b) (q5 := q5) (q10 := q10) (f2 := f2) (f4 := f4) (f7 := f7) (f9 := f9) (f12 := f12) (f14 := f14) (f16 := f16)
  have e70 := hX_7 (b := b) (q5 := q5) (q10 := q10) (f2 := f2) (f4 := f4) (f7 := f7) (f9 := f9) (f12 := f12) (f14 := f14) (f16 := f16)
  have e80 := hX_8 (b := b) (q5 := q5) (q10 := q10) (f2 := f2) (f4 := f4) (f7 := f7) (f9 := f9) (f12 := f12) (f14 := f14) (f16 := f16)
  have e0 := hX_0 (b := b) (q5 := q5) (q10 := q10) (f2 := f2) (f4 := f4) (f7 := f7) (f9 := f9) (f12 := f12) (f14 := f14) (f16 := f16)
  have e2 := hX_a2 (b := b) (q5 := q5) (q10 := q10) (f2 := f2) (f4 := f4) (f7 := f7) (f9 := f9) (f12 := f12) (f14 := f14) (f16 := f16)
  have e3 := hX_a3 (b := b) (q5 := q5) (q10 := q10) (f2 := f2) (f4 := f4) (f7 := f7) (f9 := f9) (f12 := f12) (f14 := f14) (f16 := f16)
  generalize hX b q5 q10 f2 f4 f7 f9 f12 f14 f16 = h at e10 e20 e30 e40 e50 e70 e80 e0 e2 e3
  refine ⟨h, e0, ?_, ?_⟩
  · unfold xsrc at hP
    have pt := PP_R hP
    have k1 := PP_L hP
    have ps := PP_R k1
    have k2 := PP_L k1
    have pr := PP_R k2
    have k3 := PP_L k2
    have p10 := PP_R k3
    have k4 := PP_L k3
    have p9 := PP_R k4
    have k5 := PP_L k4
    have p7 := PP_R k5
    have k6 := PP_L k5
    have p5 := PP_R k6
    have k7 := PP_L k6
    have p4 := PP_R k7
    have k8 := PP_L k7
    have p2 := PP_R k8
    have p0 := PP_L k8
    have g30 := e30 0 (by omega)
    have g40 := e40 0 (by omega)
    have p5' := PP_seti (g := fun i => some (h (30 + 10 * i))) p5 0 rfl (fun i hi => by
      rcases (show i = 0 ∨ i = 1 by omega) with rfl | rfl
      · exact congrArg some g30.symm
      · exact congrArg some g40.symm)
    unfold xw
    refine PP_ap (PP_ap (PP_ap (PP_ap (PP_ap (PP_ap (PP_ap ?_ ?_) ?_) ?_) ?_) ?_) ?_) ?_
    · have g10 := e10 0 (by omega)
      have g20 := e20 0 (by omega)
      have g50 := e50 0 (by omega)
      have g70 := e70 0 (by omega)
      have hc := PP_ap p0 (PP_ap p5' p10)
      rw [e0, e2, e3, e80, show h 10 = f2 0 from g10, show h 20 = f4 0 from g20, show h 50 = f12 0 from g50, show h 70 = f14 0 from g70]
      exact hc
    · rw [wv_h (h := fun k => h (10 + k)) (f := f2) (fun k hk => e10 k (by omega))]; exact p2
    · rw [wv_h (h := fun k => h (20 + k)) (f := f4) (fun k hk => e20 k (by omega))]; exact p4
    · rw [wv_h (h := fun k => h (30 + k)) (f := f7) (fun k hk => e30 k (by omega))]; exact p7
    · rw [wv_h (h := fun k => h (40 + k)) (f := f9) (fun k hk => e40 k (by omega))]; exact p9
    · rw [rv_h (h := fun k => h (50 + k)) (f := f12) (fun k hk => e50 k (by omega))]; exact pr
    · exact PP_sv (h := fun k => h (70 + k)) (f := f14) (fun k hk => e70 k (by omega)) ps
    · show PP G [(h 80, .inr (0, [.long 1]))] H
      rw [e80]
      exact pt
  · refine vaD_perm hD ?_
    unfold xsrc xw
    simp only [List.map_append, wv_fst, rv_fst, sv_fst]
    rw [wvA_h (h := fun k => h (10 + k)) (f := f2) (fun k hk => e10 k (by omega)), wvA_h (h := fun k => h (20 + k)) (f := f4) (fun k hk => e20 k (by omega)), wvA_h (h := fun k => h (30 + k)) (f := f7) (fun k hk => e30 k (by omega)), wvA_h (h := fun k => h (40 + k)) (f := f9) (fun k hk => e40 k (by omega)), rvA_h (h := fun k => h (50 + k)) (f := f12) (fun k hk => e50 k (by omega)), svA_h (h := fun k => h (70 + k)) (f := f14) (fun k hk => e70 k (by omega))]
    have hq := pm3 b q5 q10 (wvA f2 ++ wvA f4) (wvA f7 ++ wvA f9) (rvA f12 ++ (svA f14 ++ [f16 0]))
    simp only [List.append_assoc] at hq
    simp only [tv, List.map_cons, List.map_nil, List.append_assoc, List.cons_append, List.nil_append, e0, e2, e3]
    rw [show h (80 + 0) = f16 0 from e80]
    exact hq
