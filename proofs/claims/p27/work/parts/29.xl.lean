/-! the large worlds: which cells lie where -/
def wb (G : gG) (h k : Nat → Nat) (w w2 : oS) : va_W := wv G h w ++ wv G k w2
/-- cells put in at places that lie side by side -/
theorem ovr_mid : ∀ (B B' A C : va_W), B'.length = B.length → ovr (A ++ (B ++ C)) (List.range' A.length B.length) B' = A ++ (B' ++ C)
  | [], [], A, C, _ => by simp [ovr]
  | [], _ :: _, _, _, h => by simp at h
  | _ :: _, [], _, _, h => by simp at h
  | b :: B, b' :: B', A, C, h => by
    have e : List.range' A.length (b :: B).length = A.length :: List.range' (A.length + 1) B.length := by rw [List.length_cons, List.range'_succ]
    have e2 : (A ++ ((b :: B) ++ C)).set A.length b' = (A ++ [b']) ++ (B ++ C) := by simp
    have h3 := ovr_mid B B' (A ++ [b']) C (by simpa using h)
    have e4 : (A ++ [b']).length = A.length + 1 := by simp
    rw [e4] at h3
    rw [e, ovr, e2, h3]
    simp
theorem ovr_end (A B B' : va_W) (h : B'.length = B.length) : ovr (A ++ B) (List.range' A.length B.length) B' = A ++ B' := by
  have h3 := ovr_mid B B' A [] h
  rw [List.append_nil, List.append_nil] at h3
  exact h3
theorem ovr_app : ∀ (is is' : List Nat) (w qs qs' : va_W), is.length = qs.length → ovr w (is ++ is') (qs ++ qs') = ovr (ovr w is qs) is' qs'
  | [], is', w, [], qs', _ => rfl
  | [], _, _, _ :: _, _, h => by simp at h
  | _ :: _, _, _, [], _, h => by simp at h
  | i :: is, is', w, q :: qs, qs', h => by
    show ovr (w.set i q) (is ++ is') (qs ++ qs') = ovr (ovr (w.set i q) is qs) is' qs'
    exact ovr_app is is' (w.set i q) qs qs' (by simpa using h)
def xh (G : gG) (h : Nat → Nat) (x : oS) : va_W := [(h 0, .inr (4, [.ref (h 10), .ref (h 20), .ref (h 2), .ref (h 3), .ref (h 50), .ref (h 70), .ref (h 80), .int (x.1 7), .int (x.1 8)])),
   (h 2, .inl (G.2.2 3, 2, .inr (.inr (.inr (.inr (fun i => some (h (30 + 10 * i)))))))), (h 3, .inl (G.2.2 2, 2, .inl (x.2 3)))]
def rh (G : gG) (h : Nat → Nat) (rd : oS) : va_W := [(h 50, .inr (1, [.ref (h 51), .int (rd.1 1), .int (rd.1 2), .int (rd.1 3), .int (rd.1 4), .int (rd.1 5), .ref (h 57), .ref (h 58), .int (rd.1 8), .ref (h 60)])),
   (h 51, .inl (G.2.2 0, 240, .inl (rd.2 0))), (h 57, .inl (G.2.2 2, 48, .inl (rd.2 6))), (h 58, .inl (G.2.2 0, 48, .inl (rd.2 7)))]
theorem rv_eq (G : gG) (h : Nat → Nat) (rd wr : oS) : rv G (fun k => h (50 + k)) rd wr = rh G h rd ++ wv G (fun k => h (60 + k)) wr := rfl
set_option maxRecDepth 100000 in
theorem xw_eq (G : gG) (h : Nat → Nat) (x wn wa w0 w1 rd wr z : oS) (jj : Nat → Nat → Int64) (lt : Int64) : xw G h x wn wa w0 w1 rd wr z jj lt = (xh G h x) ++ ((wv G (fun k => h (10 + k)) wn) ++ ((wv G (fun k => h (20 + k)) wa) ++ ((wv G (fun k => h (30 + k)) w0) ++ ((wv G (fun k => h (40 + k)) w1) ++ ((rv G (fun k => h (50 + k)) rd wr) ++ ((sv G (fun k => h (70 + k)) z jj) ++ (tv G (fun k => h (80 + k)) lt))))))) := by simp only [xw, xh, List.append_assoc]
set_option maxRecDepth 100000 in
theorem xp_0 (G : gG) (h : Nat → Nat) (x wn wa w0 w1 rd wr z : oS) (jj : Nat → Nat → Int64) (lt : Int64) : (xw G h x wn wa w0 w1 rd wr z jj lt)[0]? = some (h 0, .inr (4, [.ref (h 10), .ref (h 20), .ref (h 2), .ref (h 3), .ref (h 50), .ref (h 70), .ref (h 80), .int (x.1 7), .int (x.1 8)])) := rfl
set_option maxRecDepth 100000 in
theorem xp_1 (G : gG) (h : Nat → Nat) (x wn wa w0 w1 rd wr z : oS) (jj : Nat → Nat → Int64) (lt : Int64) : (xw G h x wn wa w0 w1 rd wr z jj lt)[1]? = some (h 2, .inl (G.2.2 3, 2, .inr (.inr (.inr (.inr (fun i => some (h (30 + 10 * i)))))))) := rfl
set_option maxRecDepth 100000 in
theorem xp_2 (G : gG) (h : Nat → Nat) (x wn wa w0 w1 rd wr z : oS) (jj : Nat → Nat → Int64) (lt : Int64) : (xw G h x wn wa w0 w1 rd wr z jj lt)[2]? = some (h 3, .inl (G.2.2 2, 2, .inl (x.2 3))) := rfl
set_option maxRecDepth 100000 in
theorem xp_3 (G : gG) (h : Nat → Nat) (x wn wa w0 w1 rd wr z : oS) (jj : Nat → Nat → Int64) (lt : Int64) : (xw G h x wn wa w0 w1 rd wr z jj lt)[3]? = some (h 10, .inr (3, [.int (wn.1 0), .ref (h 11), .ref (h 12), .ref (h 13), .ref (h 14), .int (wn.1 5), .ref (h 16), .ref (h 17), .ref (h 18)])) := rfl
set_option maxRecDepth 100000 in
theorem xp_4 (G : gG) (h : Nat → Nat) (x wn wa w0 w1 rd wr z : oS) (jj : Nat → Nat → Int64) (lt : Int64) : (xw G h x wn wa w0 w1 rd wr z jj lt)[4]? = some (h 11, .inl (G.2.2 0, 24, .inl (wn.2 1))) := rfl
set_option maxRecDepth 100000 in
theorem xp_5 (G : gG) (h : Nat → Nat) (x wn wa w0 w1 rd wr z : oS) (jj : Nat → Nat → Int64) (lt : Int64) : (xw G h x wn wa w0 w1 rd wr z jj lt)[5]? = some (h 12, .inl (G.2.2 0, 24, .inl (wn.2 2))) := rfl
set_option maxRecDepth 100000 in
theorem xp_6 (G : gG) (h : Nat → Nat) (x wn wa w0 w1 rd wr z : oS) (jj : Nat → Nat → Int64) (lt : Int64) : (xw G h x wn wa w0 w1 rd wr z jj lt)[6]? = some (h 13, .inl (G.2.2 0, 24, .inl (wn.2 3))) := rfl
set_option maxRecDepth 100000 in
theorem xp_7 (G : gG) (h : Nat → Nat) (x wn wa w0 w1 rd wr z : oS) (jj : Nat → Nat → Int64) (lt : Int64) : (xw G h x wn wa w0 w1 rd wr z jj lt)[7]? = some (h 14, .inl (G.2.2 0, 24, .inl (wn.2 4))) := rfl
set_option maxRecDepth 100000 in
theorem xp_8 (G : gG) (h : Nat → Nat) (x wn wa w0 w1 rd wr z : oS) (jj : Nat → Nat → Int64) (lt : Int64) : (xw G h x wn wa w0 w1 rd wr z jj lt)[8]? = some (h 16, .inl (G.2.2 0, 120, .inl (wn.2 6))) := rfl
set_option maxRecDepth 100000 in
theorem xp_9 (G : gG) (h : Nat → Nat) (x wn wa w0 w1 rd wr z : oS) (jj : Nat → Nat → Int64) (lt : Int64) : (xw G h x wn wa w0 w1 rd wr z jj lt)[9]? = some (h 17, .inl (G.2.2 0, 120, .inl (wn.2 7))) := rfl
set_option maxRecDepth 100000 in
theorem xp_10 (G : gG) (h : Nat → Nat) (x wn wa w0 w1 rd wr z : oS) (jj : Nat → Nat → Int64) (lt : Int64) : (xw G h x wn wa w0 w1 rd wr z jj lt)[10]? = some (h 18, .inl (G.2.2 0, 120, .inl (wn.2 8))) := rfl
set_option maxRecDepth 100000 in
theorem xp_11 (G : gG) (h : Nat → Nat) (x wn wa w0 w1 rd wr z : oS) (jj : Nat → Nat → Int64) (lt : Int64) : (xw G h x wn wa w0 w1 rd wr z jj lt)[11]? = some (h 20, .inr (3, [.int (wa.1 0), .ref (h 21), .ref (h 22), .ref (h 23), .ref (h 24), .int (wa.1 5), .ref (h 26), .ref (h 27), .ref (h 28)])) := rfl
set_option maxRecDepth 100000 in
theorem xp_12 (G : gG) (h : Nat → Nat) (x wn wa w0 w1 rd wr z : oS) (jj : Nat → Nat → Int64) (lt : Int64) : (xw G h x wn wa w0 w1 rd wr z jj lt)[12]? = some (h 21, .inl (G.2.2 0, 24, .inl (wa.2 1))) := rfl
set_option maxRecDepth 100000 in
theorem xp_13 (G : gG) (h : Nat → Nat) (x wn wa w0 w1 rd wr z : oS) (jj : Nat → Nat → Int64) (lt : Int64) : (xw G h x wn wa w0 w1 rd wr z jj lt)[13]? = some (h 22, .inl (G.2.2 0, 24, .inl (wa.2 2))) := rfl
set_option maxRecDepth 100000 in
theorem xp_14 (G : gG) (h : Nat → Nat) (x wn wa w0 w1 rd wr z : oS) (jj : Nat → Nat → Int64) (lt : Int64) : (xw G h x wn wa w0 w1 rd wr z jj lt)[14]? = some (h 23, .inl (G.2.2 0, 24, .inl (wa.2 3))) := rfl
set_option maxRecDepth 100000 in
theorem xp_15 (G : gG) (h : Nat → Nat) (x wn wa w0 w1 rd wr z : oS) (jj : Nat → Nat → Int64) (lt : Int64) : (xw G h x wn wa w0 w1 rd wr z jj lt)[15]? = some (h 24, .inl (G.2.2 0, 24, .inl (wa.2 4))) := rfl
set_option maxRecDepth 100000 in
theorem xp_16 (G : gG) (h : Nat → Nat) (x wn wa w0 w1 rd wr z : oS) (jj : Nat → Nat → Int64) (lt : Int64) : (xw G h x wn wa w0 w1 rd wr z jj lt)[16]? = some (h 26, .inl (G.2.2 0, 120, .inl (wa.2 6))) := rfl
set_option maxRecDepth 100000 in
theorem xp_17 (G : gG) (h : Nat → Nat) (x wn wa w0 w1 rd wr z : oS) (jj : Nat → Nat → Int64) (lt : Int64) : (xw G h x wn wa w0 w1 rd wr z jj lt)[17]? = some (h 27, .inl (G.2.2 0, 120, .inl (wa.2 7))) := rfl
set_option maxRecDepth 100000 in
theorem xp_18 (G : gG) (h : Nat → Nat) (x wn wa w0 w1 rd wr z : oS) (jj : Nat → Nat → Int64) (lt : Int64) : (xw G h x wn wa w0 w1 rd wr z jj lt)[18]? = some (h 28, .inl (G.2.2 0, 120, .inl (wa.2 8))) := rfl
set_option maxRecDepth 100000 in
theorem xp_19 (G : gG) (h : Nat → Nat) (x wn wa w0 w1 rd wr z : oS) (jj : Nat → Nat → Int64) (lt : Int64) : (xw G h x wn wa w0 w1 rd wr z jj lt)[19]? = some (h 30, .inr (3, [.int (w0.1 0), .ref (h 31), .ref (h 32), .ref (h 33), .ref (h 34), .int (w0.1 5), .ref (h 36), .ref (h 37), .ref (h 38)])) := rfl
set_option maxRecDepth 100000 in
theorem xp_20 (G : gG) (h : Nat → Nat) (x wn wa w0 w1 rd wr z : oS) (jj : Nat → Nat → Int64) (lt : Int64) : (xw G h x wn wa w0 w1 rd wr z jj lt)[20]? = some (h 31, .inl (G.2.2 0, 24, .inl (w0.2 1))) := rfl
set_option maxRecDepth 100000 in
theorem xp_21 (G : gG) (h : Nat → Nat) (x wn wa w0 w1 rd wr z : oS) (jj : Nat → Nat → Int64) (lt : Int64) : (xw G h x wn wa w0 w1 rd wr z jj lt)[21]? = some (h 32, .inl (G.2.2 0, 24, .inl (w0.2 2))) := rfl
set_option maxRecDepth 100000 in
theorem xp_22 (G : gG) (h : Nat → Nat) (x wn wa w0 w1 rd wr z : oS) (jj : Nat → Nat → Int64) (lt : Int64) : (xw G h x wn wa w0 w1 rd wr z jj lt)[22]? = some (h 33, .inl (G.2.2 0, 24, .inl (w0.2 3))) := rfl
set_option maxRecDepth 100000 in
theorem xp_23 (G : gG) (h : Nat → Nat) (x wn wa w0 w1 rd wr z : oS) (jj : Nat → Nat → Int64) (lt : Int64) : (xw G h x wn wa w0 w1 rd wr z jj lt)[23]? = some (h 34, .inl (G.2.2 0, 24, .inl (w0.2 4))) := rfl
set_option maxRecDepth 100000 in
theorem xp_24 (G : gG) (h : Nat → Nat) (x wn wa w0 w1 rd wr z : oS) (jj : Nat → Nat → Int64) (lt : Int64) : (xw G h x wn wa w0 w1 rd wr z jj lt)[24]? = some (h 36, .inl (G.2.2 0, 120, .inl (w0.2 6))) := rfl
set_option maxRecDepth 100000 in
theorem xp_25 (G : gG) (h : Nat → Nat) (x wn wa w0 w1 rd wr z : oS) (jj : Nat → Nat → Int64) (lt : Int64) : (xw G h x wn wa w0 w1 rd wr z jj lt)[25]? = some (h 37, .inl (G.2.2 0, 120, .inl (w0.2 7))) := rfl
set_option maxRecDepth 100000 in
theorem xp_26 (G : gG) (h : Nat → Nat) (x wn wa w0 w1 rd wr z : oS) (jj : Nat → Nat → Int64) (lt : Int64) : (xw G h x wn wa w0 w1 rd wr z jj lt)[26]? = some (h 38, .inl (G.2.2 0, 120, .inl (w0.2 8))) := rfl
set_option maxRecDepth 100000 in
theorem xp_27 (G : gG) (h : Nat → Nat) (x wn wa w0 w1 rd wr z : oS) (jj : Nat → Nat → Int64) (lt : Int64) : (xw G h x wn wa w0 w1 rd wr z jj lt)[27]? = some (h 40, .inr (3, [.int (w1.1 0), .ref (h 41), .ref (h 42), .ref (h 43), .ref (h 44), .int (w1.1 5), .ref (h 46), .ref (h 47), .ref (h 48)])) := rfl
set_option maxRecDepth 100000 in
theorem xp_28 (G : gG) (h : Nat → Nat) (x wn wa w0 w1 rd wr z : oS) (jj : Nat → Nat → Int64) (lt : Int64) : (xw G h x wn wa w0 w1 rd wr z jj lt)[28]? = some (h 41, .inl (G.2.2 0, 24, .inl (w1.2 1))) := rfl
set_option maxRecDepth 100000 in
theorem xp_29 (G : gG) (h : Nat → Nat) (x wn wa w0 w1 rd wr z : oS) (jj : Nat → Nat → Int64) (lt : Int64) : (xw G h x wn wa w0 w1 rd wr z jj lt)[29]? = some (h 42, .inl (G.2.2 0, 24, .inl (w1.2 2))) := rfl
set_option maxRecDepth 100000 in
theorem xp_30 (G : gG) (h : Nat → Nat) (x wn wa w0 w1 rd wr z : oS) (jj : Nat → Nat → Int64) (lt : Int64) : (xw G h x wn wa w0 w1 rd wr z jj lt)[30]? = some (h 43, .inl (G.2.2 0, 24, .inl (w1.2 3))) := rfl
set_option maxRecDepth 100000 in
theorem xp_31 (G : gG) (h : Nat → Nat) (x wn wa w0 w1 rd wr z : oS) (jj : Nat → Nat → Int64) (lt : Int64) : (xw G h x wn wa w0 w1 rd wr z jj lt)[31]? = some (h 44, .inl (G.2.2 0, 24, .inl (w1.2 4))) := rfl
set_option maxRecDepth 100000 in
theorem xp_32 (G : gG) (h : Nat → Nat) (x wn wa w0 w1 rd wr z : oS) (jj : Nat → Nat → Int64) (lt : Int64) : (xw G h x wn wa w0 w1 rd wr z jj lt)[32]? = some (h 46, .inl (G.2.2 0, 120, .inl (w1.2 6))) := rfl
set_option maxRecDepth 100000 in
theorem xp_33 (G : gG) (h : Nat → Nat) (x wn wa w0 w1 rd wr z : oS) (jj : Nat → Nat → Int64) (lt : Int64) : (xw G h x wn wa w0 w1 rd wr z jj lt)[33]? = some (h 47, .inl (G.2.2 0, 120, .inl (w1.2 7))) := rfl
set_option maxRecDepth 100000 in
theorem xp_34 (G : gG) (h : Nat → Nat) (x wn wa w0 w1 rd wr z : oS) (jj : Nat → Nat → Int64) (lt : Int64) : (xw G h x wn wa w0 w1 rd wr z jj lt)[34]? = some (h 48, .inl (G.2.2 0, 120, .inl (w1.2 8))) := rfl
set_option maxRecDepth 100000 in
theorem xp_35 (G : gG) (h : Nat → Nat) (x wn wa w0 w1 rd wr z : oS) (jj : Nat → Nat → Int64) (lt : Int64) : (xw G h x wn wa w0 w1 rd wr z jj lt)[35]? = some (h 50, .inr (1, [.ref (h 51), .int (rd.1 1), .int (rd.1 2), .int (rd.1 3), .int (rd.1 4), .int (rd.1 5), .ref (h 57), .ref (h 58), .int (rd.1 8), .ref (h 60)])) := rfl
set_option maxRecDepth 100000 in
theorem xp_36 (G : gG) (h : Nat → Nat) (x wn wa w0 w1 rd wr z : oS) (jj : Nat → Nat → Int64) (lt : Int64) : (xw G h x wn wa w0 w1 rd wr z jj lt)[36]? = some (h 51, .inl (G.2.2 0, 240, .inl (rd.2 0))) := rfl
set_option maxRecDepth 100000 in
theorem xp_37 (G : gG) (h : Nat → Nat) (x wn wa w0 w1 rd wr z : oS) (jj : Nat → Nat → Int64) (lt : Int64) : (xw G h x wn wa w0 w1 rd wr z jj lt)[37]? = some (h 57, .inl (G.2.2 2, 48, .inl (rd.2 6))) := rfl
set_option maxRecDepth 100000 in
theorem xp_38 (G : gG) (h : Nat → Nat) (x wn wa w0 w1 rd wr z : oS) (jj : Nat → Nat → Int64) (lt : Int64) : (xw G h x wn wa w0 w1 rd wr z jj lt)[38]? = some (h 58, .inl (G.2.2 0, 48, .inl (rd.2 7))) := rfl
set_option maxRecDepth 100000 in
theorem xp_39 (G : gG) (h : Nat → Nat) (x wn wa w0 w1 rd wr z : oS) (jj : Nat → Nat → Int64) (lt : Int64) : (xw G h x wn wa w0 w1 rd wr z jj lt)[39]? = some (h 60, .inr (3, [.int (wr.1 0), .ref (h 61), .ref (h 62), .ref (h 63), .ref (h 64), .int (wr.1 5), .ref (h 66), .ref (h 67), .ref (h 68)])) := rfl
set_option maxRecDepth 100000 in
theorem xp_40 (G : gG) (h : Nat → Nat) (x wn wa w0 w1 rd wr z : oS) (jj : Nat → Nat → Int64) (lt : Int64) : (xw G h x wn wa w0 w1 rd wr z jj lt)[40]? = some (h 61, .inl (G.2.2 0, 24, .inl (wr.2 1))) := rfl
set_option maxRecDepth 100000 in
theorem xp_41 (G : gG) (h : Nat → Nat) (x wn wa w0 w1 rd wr z : oS) (jj : Nat → Nat → Int64) (lt : Int64) : (xw G h x wn wa w0 w1 rd wr z jj lt)[41]? = some (h 62, .inl (G.2.2 0, 24, .inl (wr.2 2))) := rfl
set_option maxRecDepth 100000 in
theorem xp_42 (G : gG) (h : Nat → Nat) (x wn wa w0 w1 rd wr z : oS) (jj : Nat → Nat → Int64) (lt : Int64) : (xw G h x wn wa w0 w1 rd wr z jj lt)[42]? = some (h 63, .inl (G.2.2 0, 24, .inl (wr.2 3))) := rfl
set_option maxRecDepth 100000 in
theorem xp_43 (G : gG) (h : Nat → Nat) (x wn wa w0 w1 rd wr z : oS) (jj : Nat → Nat → Int64) (lt : Int64) : (xw G h x wn wa w0 w1 rd wr z jj lt)[43]? = some (h 64, .inl (G.2.2 0, 24, .inl (wr.2 4))) := rfl
set_option maxRecDepth 100000 in
theorem xp_44 (G : gG) (h : Nat → Nat) (x wn wa w0 w1 rd wr z : oS) (jj : Nat → Nat → Int64) (lt : Int64) : (xw G h x wn wa w0 w1 rd wr z jj lt)[44]? = some (h 66, .inl (G.2.2 0, 120, .inl (wr.2 6))) := rfl
set_option maxRecDepth 100000 in
theorem xp_45 (G : gG) (h : Nat → Nat) (x wn wa w0 w1 rd wr z : oS) (jj : Nat → Nat → Int64) (lt : Int64) : (xw G h x wn wa w0 w1 rd wr z jj lt)[45]? = some (h 67, .inl (G.2.2 0, 120, .inl (wr.2 7))) := rfl
set_option maxRecDepth 100000 in
theorem xp_46 (G : gG) (h : Nat → Nat) (x wn wa w0 w1 rd wr z : oS) (jj : Nat → Nat → Int64) (lt : Int64) : (xw G h x wn wa w0 w1 rd wr z jj lt)[46]? = some (h 68, .inl (G.2.2 0, 120, .inl (wr.2 8))) := rfl
set_option maxRecDepth 100000 in
theorem xp_47 (G : gG) (h : Nat → Nat) (x wn wa w0 w1 rd wr z : oS) (jj : Nat → Nat → Int64) (lt : Int64) : (xw G h x wn wa w0 w1 rd wr z jj lt)[47]? = some (h 70, .inr (2, [.ref (h 71), .ref (h 72)])) := rfl
set_option maxRecDepth 100000 in
theorem xp_48 (G : gG) (h : Nat → Nat) (x wn wa w0 w1 rd wr z : oS) (jj : Nat → Nat → Int64) (lt : Int64) : (xw G h x wn wa w0 w1 rd wr z jj lt)[48]? = some (h 71, .inl (G.2.2 4, 4, .inr (.inr (.inr (.inr (fun i => some (h (70 + (3 + i))))))))) := rfl
set_option maxRecDepth 100000 in
theorem xp_49 (G : gG) (h : Nat → Nat) (x wn wa w0 w1 rd wr z : oS) (jj : Nat → Nat → Int64) (lt : Int64) : (xw G h x wn wa w0 w1 rd wr z jj lt)[49]? = some (h 72, .inl (G.2.2 0, 4, .inl (z.2 1))) := rfl
set_option maxRecDepth 100000 in
theorem xp_50 (G : gG) (h : Nat → Nat) (x wn wa w0 w1 rd wr z : oS) (jj : Nat → Nat → Int64) (lt : Int64) : (xw G h x wn wa w0 w1 rd wr z jj lt)[50]? = some (h 73, .inl (G.2.2 1, 40, .inr (.inl (jj 0)))) := rfl
set_option maxRecDepth 100000 in
theorem xp_51 (G : gG) (h : Nat → Nat) (x wn wa w0 w1 rd wr z : oS) (jj : Nat → Nat → Int64) (lt : Int64) : (xw G h x wn wa w0 w1 rd wr z jj lt)[51]? = some (h 74, .inl (G.2.2 1, 40, .inr (.inl (jj 1)))) := rfl
set_option maxRecDepth 100000 in
theorem xp_52 (G : gG) (h : Nat → Nat) (x wn wa w0 w1 rd wr z : oS) (jj : Nat → Nat → Int64) (lt : Int64) : (xw G h x wn wa w0 w1 rd wr z jj lt)[52]? = some (h 75, .inl (G.2.2 1, 40, .inr (.inl (jj 2)))) := rfl
set_option maxRecDepth 100000 in
theorem xp_53 (G : gG) (h : Nat → Nat) (x wn wa w0 w1 rd wr z : oS) (jj : Nat → Nat → Int64) (lt : Int64) : (xw G h x wn wa w0 w1 rd wr z jj lt)[53]? = some (h 76, .inl (G.2.2 1, 40, .inr (.inl (jj 3)))) := rfl
set_option maxRecDepth 100000 in
theorem xp_54 (G : gG) (h : Nat → Nat) (x wn wa w0 w1 rd wr z : oS) (jj : Nat → Nat → Int64) (lt : Int64) : (xw G h x wn wa w0 w1 rd wr z jj lt)[54]? = some (h 80, .inr (0, [.long lt])) := rfl
set_option maxRecDepth 100000 in
theorem xc_now (G : gG) (h : Nat → Nat) (x wn wa w0 w1 rd wr z : oS) (jj : Nat → Nat → Int64) (lt : Int64) : ([3, 4, 5, 6, 7, 8, 9, 10] : List Nat).map (fun i => (xw G h x wn wa w0 w1 rd wr z jj lt)[i]?) = (wv G (fun k => h (10 + k)) wn).map some := rfl
set_option maxRecDepth 100000 in
theorem xf_now (G : gG) (h : Nat → Nat) (x wn wa w0 w1 rd wr z : oS) (jj : Nat → Nat → Int64) (lt : Int64) : ([3, 4, 5, 6, 7, 8, 9, 10] : List Nat).filterMap (fun i => (xw G h x wn wa w0 w1 rd wr z jj lt)[i]?) = wv G (fun k => h (10 + k)) wn := rfl
set_option maxRecDepth 100000 in
theorem xm_now (G : gG) (h : Nat → Nat) (x wn wa w0 w1 rd wr z : oS) (jj : Nat → Nat → Int64) (lt : Int64) (v : oS) : (xw G h x v wa w0 w1 rd wr z jj lt).map Prod.fst = (xw G h x wn wa w0 w1 rd wr z jj lt).map Prod.fst := rfl
set_option maxRecDepth 100000 in
theorem xo_now (G : gG) (h : Nat → Nat) (x wn wa w0 w1 rd wr z : oS) (jj : Nat → Nat → Int64) (lt : Int64) (v : oS) : ovr (xw G h x wn wa w0 w1 rd wr z jj lt) ([3, 4, 5, 6, 7, 8, 9, 10] : List Nat) (wv G (fun k => h (10 + k)) v) = xw G h x v wa w0 w1 rd wr z jj lt := by
  have e1 : xw G h x wn wa w0 w1 rd wr z jj lt = ((xh G h x)) ++ ((wv G (fun k => h (10 + k)) wn) ++ ((wv G (fun k => h (20 + k)) wa) ++ ((wv G (fun k => h (30 + k)) w0) ++ ((wv G (fun k => h (40 + k)) w1) ++ ((rv G (fun k => h (50 + k)) rd wr) ++ ((sv G (fun k => h (70 + k)) z jj) ++ (tv G (fun k => h (80 + k)) lt))))))) := by rw [xw_eq] <;> simp only [List.append_assoc]
  have e2 : xw G h x v wa w0 w1 rd wr z jj lt = ((xh G h x)) ++ ((wv G (fun k => h (10 + k)) v) ++ ((wv G (fun k => h (20 + k)) wa) ++ ((wv G (fun k => h (30 + k)) w0) ++ ((wv G (fun k => h (40 + k)) w1) ++ ((rv G (fun k => h (50 + k)) rd wr) ++ ((sv G (fun k => h (70 + k)) z jj) ++ (tv G (fun k => h (80 + k)) lt))))))) := by rw [xw_eq] <;> simp only [List.append_assoc]
  rw [e1, e2]
  exact ovr_mid (wv G (fun k => h (10 + k)) wn) (wv G (fun k => h (10 + k)) v) ((xh G h x)) ((wv G (fun k => h (20 + k)) wa) ++ ((wv G (fun k => h (30 + k)) w0) ++ ((wv G (fun k => h (40 + k)) w1) ++ ((rv G (fun k => h (50 + k)) rd wr) ++ ((sv G (fun k => h (70 + k)) z jj) ++ (tv G (fun k => h (80 + k)) lt)))))) rfl
set_option maxRecDepth 100000 in
theorem xc_ahead (G : gG) (h : Nat → Nat) (x wn wa w0 w1 rd wr z : oS) (jj : Nat → Nat → Int64) (lt : Int64) : ([11, 12, 13, 14, 15, 16, 17, 18] : List Nat).map (fun i => (xw G h x wn wa w0 w1 rd wr z jj lt)[i]?) = (wv G (fun k => h (20 + k)) wa).map some := rfl
set_option maxRecDepth 100000 in
theorem xf_ahead (G : gG) (h : Nat → Nat) (x wn wa w0 w1 rd wr z : oS) (jj : Nat → Nat → Int64) (lt : Int64) : ([11, 12, 13, 14, 15, 16, 17, 18] : List Nat).filterMap (fun i => (xw G h x wn wa w0 w1 rd wr z jj lt)[i]?) = wv G (fun k => h (20 + k)) wa := rfl
set_option maxRecDepth 100000 in
theorem xm_ahead (G : gG) (h : Nat → Nat) (x wn wa w0 w1 rd wr z : oS) (jj : Nat → Nat → Int64) (lt : Int64) (v : oS) : (xw G h x wn v w0 w1 rd wr z jj lt).map Prod.fst = (xw G h x wn wa w0 w1 rd wr z jj lt).map Prod.fst := rfl
set_option maxRecDepth 100000 in
theorem xo_ahead (G : gG) (h : Nat → Nat) (x wn wa w0 w1 rd wr z : oS) (jj : Nat → Nat → Int64) (lt : Int64) (v : oS) : ovr (xw G h x wn wa w0 w1 rd wr z jj lt) ([11, 12, 13, 14, 15, 16, 17, 18] : List Nat) (wv G (fun k => h (20 + k)) v) = xw G h x wn v w0 w1 rd wr z jj lt := by
  have e1 : xw G h x wn wa w0 w1 rd wr z jj lt = ((xh G h x) ++ (wv G (fun k => h (10 + k)) wn)) ++ ((wv G (fun k => h (20 + k)) wa) ++ ((wv G (fun k => h (30 + k)) w0) ++ ((wv G (fun k => h (40 + k)) w1) ++ ((rv G (fun k => h (50 + k)) rd wr) ++ ((sv G (fun k => h (70 + k)) z jj) ++ (tv G (fun k => h (80 + k)) lt)))))) := by rw [xw_eq] <;> simp only [List.append_assoc]
  have e2 : xw G h x wn v w0 w1 rd wr z jj lt = ((xh G h x) ++ (wv G (fun k => h (10 + k)) wn)) ++ ((wv G (fun k => h (20 + k)) v) ++ ((wv G (fun k => h (30 + k)) w0) ++ ((wv G (fun k => h (40 + k)) w1) ++ ((rv G (fun k => h (50 + k)) rd wr) ++ ((sv G (fun k => h (70 + k)) z jj) ++ (tv G (fun k => h (80 + k)) lt)))))) := by rw [xw_eq] <;> simp only [List.append_assoc]
  rw [e1, e2]
  exact ovr_mid (wv G (fun k => h (20 + k)) wa) (wv G (fun k => h (20 + k)) v) ((xh G h x) ++ (wv G (fun k => h (10 + k)) wn)) ((wv G (fun k => h (30 + k)) w0) ++ ((wv G (fun k => h (40 + k)) w1) ++ ((rv G (fun k => h (50 + k)) rd wr) ++ ((sv G (fun k => h (70 + k)) z jj) ++ (tv G (fun k => h (80 + k)) lt))))) rfl
set_option maxRecDepth 100000 in
theorem xc_im0 (G : gG) (h : Nat → Nat) (x wn wa w0 w1 rd wr z : oS) (jj : Nat → Nat → Int64) (lt : Int64) : ([19, 20, 21, 22, 23, 24, 25, 26] : List Nat).map (fun i => (xw G h x wn wa w0 w1 rd wr z jj lt)[i]?) = (wv G (fun k => h (30 + k)) w0).map some := rfl
set_option maxRecDepth 100000 in
theorem xf_im0 (G : gG) (h : Nat → Nat) (x wn wa w0 w1 rd wr z : oS) (jj : Nat → Nat → Int64) (lt : Int64) : ([19, 20, 21, 22, 23, 24, 25, 26] : List Nat).filterMap (fun i => (xw G h x wn wa w0 w1 rd wr z jj lt)[i]?) = wv G (fun k => h (30 + k)) w0 := rfl
set_option maxRecDepth 100000 in
theorem xm_im0 (G : gG) (h : Nat → Nat) (x wn wa w0 w1 rd wr z : oS) (jj : Nat → Nat → Int64) (lt : Int64) (v : oS) : (xw G h x wn wa v w1 rd wr z jj lt).map Prod.fst = (xw G h x wn wa w0 w1 rd wr z jj lt).map Prod.fst := rfl
set_option maxRecDepth 100000 in
theorem xo_im0 (G : gG) (h : Nat → Nat) (x wn wa w0 w1 rd wr z : oS) (jj : Nat → Nat → Int64) (lt : Int64) (v : oS) : ovr (xw G h x wn wa w0 w1 rd wr z jj lt) ([19, 20, 21, 22, 23, 24, 25, 26] : List Nat) (wv G (fun k => h (30 + k)) v) = xw G h x wn wa v w1 rd wr z jj lt := by
  have e1 : xw G h x wn wa w0 w1 rd wr z jj lt = ((xh G h x) ++ (wv G (fun k => h (10 + k)) wn) ++ (wv G (fun k => h (20 + k)) wa)) ++ ((wv G (fun k => h (30 + k)) w0) ++ ((wv G (fun k => h (40 + k)) w1) ++ ((rv G (fun k => h (50 + k)) rd wr) ++ ((sv G (fun k => h (70 + k)) z jj) ++ (tv G (fun k => h (80 + k)) lt))))) := by rw [xw_eq] <;> simp only [List.append_assoc]
  have e2 : xw G h x wn wa v w1 rd wr z jj lt = ((xh G h x) ++ (wv G (fun k => h (10 + k)) wn) ++ (wv G (fun k => h (20 + k)) wa)) ++ ((wv G (fun k => h (30 + k)) v) ++ ((wv G (fun k => h (40 + k)) w1) ++ ((rv G (fun k => h (50 + k)) rd wr) ++ ((sv G (fun k => h (70 + k)) z jj) ++ (tv G (fun k => h (80 + k)) lt))))) := by rw [xw_eq] <;> simp only [List.append_assoc]
  rw [e1, e2]
  exact ovr_mid (wv G (fun k => h (30 + k)) w0) (wv G (fun k => h (30 + k)) v) ((xh G h x) ++ (wv G (fun k => h (10 + k)) wn) ++ (wv G (fun k => h (20 + k)) wa)) ((wv G (fun k => h (40 + k)) w1) ++ ((rv G (fun k => h (50 + k)) rd wr) ++ ((sv G (fun k => h (70 + k)) z jj) ++ (tv G (fun k => h (80 + k)) lt)))) rfl
set_option maxRecDepth 100000 in
theorem xc_im1 (G : gG) (h : Nat → Nat) (x wn wa w0 w1 rd wr z : oS) (jj : Nat → Nat → Int64) (lt : Int64) : ([27, 28, 29, 30, 31, 32, 33, 34] : List Nat).map (fun i => (xw G h x wn wa w0 w1 rd wr z jj lt)[i]?) = (wv G (fun k => h (40 + k)) w1).map some := rfl
set_option maxRecDepth 100000 in
theorem xf_im1 (G : gG) (h : Nat → Nat) (x wn wa w0 w1 rd wr z : oS) (jj : Nat → Nat → Int64) (lt : Int64) : ([27, 28, 29, 30, 31, 32, 33, 34] : List Nat).filterMap (fun i => (xw G h x wn wa w0 w1 rd wr z jj lt)[i]?) = wv G (fun k => h (40 + k)) w1 := rfl
set_option maxRecDepth 100000 in
theorem xm_im1 (G : gG) (h : Nat → Nat) (x wn wa w0 w1 rd wr z : oS) (jj : Nat → Nat → Int64) (lt : Int64) (v : oS) : (xw G h x wn wa w0 v rd wr z jj lt).map Prod.fst = (xw G h x wn wa w0 w1 rd wr z jj lt).map Prod.fst := rfl
set_option maxRecDepth 100000 in
theorem xo_im1 (G : gG) (h : Nat → Nat) (x wn wa w0 w1 rd wr z : oS) (jj : Nat → Nat → Int64) (lt : Int64) (v : oS) : ovr (xw G h x wn wa w0 w1 rd wr z jj lt) ([27, 28, 29, 30, 31, 32, 33, 34] : List Nat) (wv G (fun k => h (40 + k)) v) = xw G h x wn wa w0 v rd wr z jj lt := by
  have e1 : xw G h x wn wa w0 w1 rd wr z jj lt = ((xh G h x) ++ (wv G (fun k => h (10 + k)) wn) ++ (wv G (fun k => h (20 + k)) wa) ++ (wv G (fun k => h (30 + k)) w0)) ++ ((wv G (fun k => h (40 + k)) w1) ++ ((rv G (fun k => h (50 + k)) rd wr) ++ ((sv G (fun k => h (70 + k)) z jj) ++ (tv G (fun k => h (80 + k)) lt)))) := by rw [xw_eq] <;> simp only [List.append_assoc]
  have e2 : xw G h x wn wa w0 v rd wr z jj lt = ((xh G h x) ++ (wv G (fun k => h (10 + k)) wn) ++ (wv G (fun k => h (20 + k)) wa) ++ (wv G (fun k => h (30 + k)) w0)) ++ ((wv G (fun k => h (40 + k)) v) ++ ((rv G (fun k => h (50 + k)) rd wr) ++ ((sv G (fun k => h (70 + k)) z jj) ++ (tv G (fun k => h (80 + k)) lt)))) := by rw [xw_eq] <;> simp only [List.append_assoc]
  rw [e1, e2]
  exact ovr_mid (wv G (fun k => h (40 + k)) w1) (wv G (fun k => h (40 + k)) v) ((xh G h x) ++ (wv G (fun k => h (10 + k)) wn) ++ (wv G (fun k => h (20 + k)) wa) ++ (wv G (fun k => h (30 + k)) w0)) ((rv G (fun k => h (50 + k)) rd wr) ++ ((sv G (fun k => h (70 + k)) z jj) ++ (tv G (fun k => h (80 + k)) lt))) rfl
set_option maxRecDepth 100000 in
theorem xc_r (G : gG) (h : Nat → Nat) (x wn wa w0 w1 rd wr z : oS) (jj : Nat → Nat → Int64) (lt : Int64) : ([35, 36, 37, 38, 39, 40, 41, 42, 43, 44, 45, 46] : List Nat).map (fun i => (xw G h x wn wa w0 w1 rd wr z jj lt)[i]?) = (rv G (fun k => h (50 + k)) rd wr).map some := rfl
set_option maxRecDepth 100000 in
theorem xf_r (G : gG) (h : Nat → Nat) (x wn wa w0 w1 rd wr z : oS) (jj : Nat → Nat → Int64) (lt : Int64) : ([35, 36, 37, 38, 39, 40, 41, 42, 43, 44, 45, 46] : List Nat).filterMap (fun i => (xw G h x wn wa w0 w1 rd wr z jj lt)[i]?) = rv G (fun k => h (50 + k)) rd wr := rfl
set_option maxRecDepth 100000 in
theorem xm_r (G : gG) (h : Nat → Nat) (x wn wa w0 w1 rd wr z : oS) (jj : Nat → Nat → Int64) (lt : Int64) (v : oS × oS) : (xw G h x wn wa w0 w1 v.1 v.2 z jj lt).map Prod.fst = (xw G h x wn wa w0 w1 rd wr z jj lt).map Prod.fst := rfl
set_option maxRecDepth 100000 in
theorem xo_r (G : gG) (h : Nat → Nat) (x wn wa w0 w1 rd wr z : oS) (jj : Nat → Nat → Int64) (lt : Int64) (v : oS × oS) : ovr (xw G h x wn wa w0 w1 rd wr z jj lt) ([35, 36, 37, 38, 39, 40, 41, 42, 43, 44, 45, 46] : List Nat) (rv G (fun k => h (50 + k)) v.1 v.2) = xw G h x wn wa w0 w1 v.1 v.2 z jj lt := by
  have e1 : xw G h x wn wa w0 w1 rd wr z jj lt = ((xh G h x) ++ (wv G (fun k => h (10 + k)) wn) ++ (wv G (fun k => h (20 + k)) wa) ++ (wv G (fun k => h (30 + k)) w0) ++ (wv G (fun k => h (40 + k)) w1)) ++ ((rv G (fun k => h (50 + k)) rd wr) ++ ((sv G (fun k => h (70 + k)) z jj) ++ (tv G (fun k => h (80 + k)) lt))) := by rw [xw_eq] <;> simp only [List.append_assoc]
  have e2 : xw G h x wn wa w0 w1 v.1 v.2 z jj lt = ((xh G h x) ++ (wv G (fun k => h (10 + k)) wn) ++ (wv G (fun k => h (20 + k)) wa) ++ (wv G (fun k => h (30 + k)) w0) ++ (wv G (fun k => h (40 + k)) w1)) ++ ((rv G (fun k => h (50 + k)) v.1 v.2) ++ ((sv G (fun k => h (70 + k)) z jj) ++ (tv G (fun k => h (80 + k)) lt))) := by rw [xw_eq] <;> simp only [List.append_assoc]
  rw [e1, e2]
  exact ovr_mid (rv G (fun k => h (50 + k)) rd wr) (rv G (fun k => h (50 + k)) v.1 v.2) ((xh G h x) ++ (wv G (fun k => h (10 + k)) wn) ++ (wv G (fun k => h (20 + k)) wa) ++ (wv G (fun k => h (30 + k)) w0) ++ (wv G (fun k => h (40 + k)) w1)) ((sv G (fun k => h (70 + k)) z jj) ++ (tv G (fun k => h (80 + k)) lt)) rfl
set_option maxRecDepth 100000 in
theorem xc_z (G : gG) (h : Nat → Nat) (x wn wa w0 w1 rd wr z : oS) (jj : Nat → Nat → Int64) (lt : Int64) : ([47, 48, 49, 50, 51, 52, 53] : List Nat).map (fun i => (xw G h x wn wa w0 w1 rd wr z jj lt)[i]?) = (sv G (fun k => h (70 + k)) z jj).map some := rfl
set_option maxRecDepth 100000 in
theorem xf_z (G : gG) (h : Nat → Nat) (x wn wa w0 w1 rd wr z : oS) (jj : Nat → Nat → Int64) (lt : Int64) : ([47, 48, 49, 50, 51, 52, 53] : List Nat).filterMap (fun i => (xw G h x wn wa w0 w1 rd wr z jj lt)[i]?) = sv G (fun k => h (70 + k)) z jj := rfl
set_option maxRecDepth 100000 in
theorem xm_z (G : gG) (h : Nat → Nat) (x wn wa w0 w1 rd wr z : oS) (jj : Nat → Nat → Int64) (lt : Int64) (v : oS × (Nat → Nat → Int64)) : (xw G h x wn wa w0 w1 rd wr v.1 v.2 lt).map Prod.fst = (xw G h x wn wa w0 w1 rd wr z jj lt).map Prod.fst := rfl
set_option maxRecDepth 100000 in
theorem xo_z (G : gG) (h : Nat → Nat) (x wn wa w0 w1 rd wr z : oS) (jj : Nat → Nat → Int64) (lt : Int64) (v : oS × (Nat → Nat → Int64)) : ovr (xw G h x wn wa w0 w1 rd wr z jj lt) ([47, 48, 49, 50, 51, 52, 53] : List Nat) (sv G (fun k => h (70 + k)) v.1 v.2) = xw G h x wn wa w0 w1 rd wr v.1 v.2 lt := by
  have e1 : xw G h x wn wa w0 w1 rd wr z jj lt = ((xh G h x) ++ (wv G (fun k => h (10 + k)) wn) ++ (wv G (fun k => h (20 + k)) wa) ++ (wv G (fun k => h (30 + k)) w0) ++ (wv G (fun k => h (40 + k)) w1) ++ (rv G (fun k => h (50 + k)) rd wr)) ++ ((sv G (fun k => h (70 + k)) z jj) ++ (tv G (fun k => h (80 + k)) lt)) := by rw [xw_eq] <;> simp only [List.append_assoc]
  have e2 : xw G h x wn wa w0 w1 rd wr v.1 v.2 lt = ((xh G h x) ++ (wv G (fun k => h (10 + k)) wn) ++ (wv G (fun k => h (20 + k)) wa) ++ (wv G (fun k => h (30 + k)) w0) ++ (wv G (fun k => h (40 + k)) w1) ++ (rv G (fun k => h (50 + k)) rd wr)) ++ ((sv G (fun k => h (70 + k)) v.1 v.2) ++ (tv G (fun k => h (80 + k)) lt)) := by rw [xw_eq] <;> simp only [List.append_assoc]
  rw [e1, e2]
  exact ovr_mid (sv G (fun k => h (70 + k)) z jj) (sv G (fun k => h (70 + k)) v.1 v.2) ((xh G h x) ++ (wv G (fun k => h (10 + k)) wn) ++ (wv G (fun k => h (20 + k)) wa) ++ (wv G (fun k => h (30 + k)) w0) ++ (wv G (fun k => h (40 + k)) w1) ++ (rv G (fun k => h (50 + k)) rd wr)) (tv G (fun k => h (80 + k)) lt) rfl
set_option maxRecDepth 100000 in
theorem xc_t (G : gG) (h : Nat → Nat) (x wn wa w0 w1 rd wr z : oS) (jj : Nat → Nat → Int64) (lt : Int64) : ([54] : List Nat).map (fun i => (xw G h x wn wa w0 w1 rd wr z jj lt)[i]?) = (tv G (fun k => h (80 + k)) lt).map some := rfl
set_option maxRecDepth 100000 in
theorem xf_t (G : gG) (h : Nat → Nat) (x wn wa w0 w1 rd wr z : oS) (jj : Nat → Nat → Int64) (lt : Int64) : ([54] : List Nat).filterMap (fun i => (xw G h x wn wa w0 w1 rd wr z jj lt)[i]?) = tv G (fun k => h (80 + k)) lt := rfl
set_option maxRecDepth 100000 in
theorem xm_t (G : gG) (h : Nat → Nat) (x wn wa w0 w1 rd wr z : oS) (jj : Nat → Nat → Int64) (lt : Int64) (v : Int64) : (xw G h x wn wa w0 w1 rd wr z jj v).map Prod.fst = (xw G h x wn wa w0 w1 rd wr z jj lt).map Prod.fst := rfl
set_option maxRecDepth 100000 in
theorem xo_t (G : gG) (h : Nat → Nat) (x wn wa w0 w1 rd wr z : oS) (jj : Nat → Nat → Int64) (lt : Int64) (v : Int64) : ovr (xw G h x wn wa w0 w1 rd wr z jj lt) ([54] : List Nat) (tv G (fun k => h (80 + k)) v) = xw G h x wn wa w0 w1 rd wr z jj v := by
  have e1 : xw G h x wn wa w0 w1 rd wr z jj lt = ((xh G h x) ++ (wv G (fun k => h (10 + k)) wn) ++ (wv G (fun k => h (20 + k)) wa) ++ (wv G (fun k => h (30 + k)) w0) ++ (wv G (fun k => h (40 + k)) w1) ++ (rv G (fun k => h (50 + k)) rd wr) ++ (sv G (fun k => h (70 + k)) z jj)) ++ (tv G (fun k => h (80 + k)) lt) := by rw [xw_eq] <;> simp only [List.append_assoc]
  have e2 : xw G h x wn wa w0 w1 rd wr z jj v = ((xh G h x) ++ (wv G (fun k => h (10 + k)) wn) ++ (wv G (fun k => h (20 + k)) wa) ++ (wv G (fun k => h (30 + k)) w0) ++ (wv G (fun k => h (40 + k)) w1) ++ (rv G (fun k => h (50 + k)) rd wr) ++ (sv G (fun k => h (70 + k)) z jj)) ++ (tv G (fun k => h (80 + k)) v) := by rw [xw_eq] <;> simp only [List.append_assoc]
  rw [e1, e2]
  exact ovr_end ((xh G h x) ++ (wv G (fun k => h (10 + k)) wn) ++ (wv G (fun k => h (20 + k)) wa) ++ (wv G (fun k => h (30 + k)) w0) ++ (wv G (fun k => h (40 + k)) w1) ++ (rv G (fun k => h (50 + k)) rd wr) ++ (sv G (fun k => h (70 + k)) z jj)) (tv G (fun k => h (80 + k)) lt) (tv G (fun k => h (80 + k)) v) rfl
set_option maxRecDepth 100000 in
theorem xo_wov (G : gG) (h : Nat → Nat) (x wn wa w0 w1 rd wr z : oS) (jj : Nat → Nat → Int64) (lt : Int64) (v : oS) : ovr (xw G h x wn wa w0 w1 rd wr z jj lt) ([39, 40, 41, 42, 43, 44, 45, 46] : List Nat) (wv G (fun k => h (60 + k)) v) = xw G h x wn wa w0 w1 rd v z jj lt := by
  have e1 : xw G h x wn wa w0 w1 rd wr z jj lt = ((xh G h x) ++ (wv G (fun k => h (10 + k)) wn) ++ (wv G (fun k => h (20 + k)) wa) ++ (wv G (fun k => h (30 + k)) w0) ++ (wv G (fun k => h (40 + k)) w1) ++ (rh G h rd)) ++ ((wv G (fun k => h (60 + k)) wr) ++ ((sv G (fun k => h (70 + k)) z jj) ++ (tv G (fun k => h (80 + k)) lt))) := by rw [xw_eq] <;> simp only [rv_eq, List.append_assoc]
  have e2 : xw G h x wn wa w0 w1 rd v z jj lt = ((xh G h x) ++ (wv G (fun k => h (10 + k)) wn) ++ (wv G (fun k => h (20 + k)) wa) ++ (wv G (fun k => h (30 + k)) w0) ++ (wv G (fun k => h (40 + k)) w1) ++ (rh G h rd)) ++ ((wv G (fun k => h (60 + k)) v) ++ ((sv G (fun k => h (70 + k)) z jj) ++ (tv G (fun k => h (80 + k)) lt))) := by rw [xw_eq] <;> simp only [rv_eq, List.append_assoc]
  rw [e1, e2]
  exact ovr_mid (wv G (fun k => h (60 + k)) wr) (wv G (fun k => h (60 + k)) v) ((xh G h x) ++ (wv G (fun k => h (10 + k)) wn) ++ (wv G (fun k => h (20 + k)) wa) ++ (wv G (fun k => h (30 + k)) w0) ++ (wv G (fun k => h (40 + k)) w1) ++ (rh G h rd)) ((sv G (fun k => h (70 + k)) z jj) ++ (tv G (fun k => h (80 + k)) lt)) rfl
set_option maxRecDepth 100000 in
theorem xm_x (G : gG) (h : Nat → Nat) (x wn wa w0 w1 rd wr z : oS) (jj : Nat → Nat → Int64) (lt : Int64) (v : oS × oS × oS × oS × oS × oS × oS × oS × (Nat → Nat → Int64) × Int64) : (xw G h v.1 v.2.1 v.2.2.1 v.2.2.2.1 v.2.2.2.2.1 v.2.2.2.2.2.1 v.2.2.2.2.2.2.1 v.2.2.2.2.2.2.2.1 v.2.2.2.2.2.2.2.2.1 v.2.2.2.2.2.2.2.2.2).map Prod.fst = (xw G h x wn wa w0 w1 rd wr z jj lt).map Prod.fst := rfl
set_option maxRecDepth 100000 in
theorem yc_now_wov (G : gG) (h : Nat → Nat) (x wn wa w0 w1 rd wr z : oS) (jj : Nat → Nat → Int64) (lt : Int64) : ([3, 4, 5, 6, 7, 8, 9, 10, 39, 40, 41, 42, 43, 44, 45, 46] : List Nat).map (fun i => (xw G h x wn wa w0 w1 rd wr z jj lt)[i]?) = (wb G (fun k => h (10 + k)) (fun k => h (60 + k)) wn wr).map some := rfl
set_option maxRecDepth 100000 in
theorem yf_now_wov (G : gG) (h : Nat → Nat) (x wn wa w0 w1 rd wr z : oS) (jj : Nat → Nat → Int64) (lt : Int64) : ([3, 4, 5, 6, 7, 8, 9, 10, 39, 40, 41, 42, 43, 44, 45, 46] : List Nat).filterMap (fun i => (xw G h x wn wa w0 w1 rd wr z jj lt)[i]?) = wb G (fun k => h (10 + k)) (fun k => h (60 + k)) wn wr := rfl
set_option maxRecDepth 100000 in
theorem yo_now_wov (G : gG) (h : Nat → Nat) (x wn wa w0 w1 rd wr z : oS) (jj : Nat → Nat → Int64) (lt : Int64) (v : oS × oS) : ovr (xw G h x wn wa w0 w1 rd wr z jj lt) ([3, 4, 5, 6, 7, 8, 9, 10, 39, 40, 41, 42, 43, 44, 45, 46] : List Nat) (wb G (fun k => h (10 + k)) (fun k => h (60 + k)) v.1 v.2) = xw G h x v.1 wa w0 w1 rd v.2 z jj lt := by
  have e : ovr (xw G h x wn wa w0 w1 rd wr z jj lt) ([3, 4, 5, 6, 7, 8, 9, 10, 39, 40, 41, 42, 43, 44, 45, 46] : List Nat) (wb G (fun k => h (10 + k)) (fun k => h (60 + k)) v.1 v.2) = ovr (ovr (xw G h x wn wa w0 w1 rd wr z jj lt) [3, 4, 5, 6, 7, 8, 9, 10] (wv G (fun k => h (10 + k)) v.1)) [39, 40, 41, 42, 43, 44, 45, 46] (wv G (fun k => h (60 + k)) v.2) := ovr_app [3, 4, 5, 6, 7, 8, 9, 10] [39, 40, 41, 42, 43, 44, 45, 46] (xw G h x wn wa w0 w1 rd wr z jj lt) (wv G (fun k => h (10 + k)) v.1) (wv G (fun k => h (60 + k)) v.2) rfl
  rw [e, xo_now G h x wn wa w0 w1 rd wr z jj lt v.1]
  exact xo_wov G h x v.1 wa w0 w1 rd wr z jj lt v.2
set_option maxRecDepth 100000 in
theorem ym_now_wov (G : gG) (h : Nat → Nat) (x wn wa w0 w1 rd wr z : oS) (jj : Nat → Nat → Int64) (lt : Int64) (v : oS × oS) : (xw G h x v.1 wa w0 w1 rd v.2 z jj lt).map Prod.fst = (xw G h x wn wa w0 w1 rd wr z jj lt).map Prod.fst := rfl
set_option maxRecDepth 100000 in
theorem yc_ahead_now (G : gG) (h : Nat → Nat) (x wn wa w0 w1 rd wr z : oS) (jj : Nat → Nat → Int64) (lt : Int64) : ([11, 12, 13, 14, 15, 16, 17, 18, 3, 4, 5, 6, 7, 8, 9, 10] : List Nat).map (fun i => (xw G h x wn wa w0 w1 rd wr z jj lt)[i]?) = (wb G (fun k => h (20 + k)) (fun k => h (10 + k)) wa wn).map some := rfl
set_option maxRecDepth 100000 in
theorem yf_ahead_now (G : gG) (h : Nat → Nat) (x wn wa w0 w1 rd wr z : oS) (jj : Nat → Nat → Int64) (lt : Int64) : ([11, 12, 13, 14, 15, 16, 17, 18, 3, 4, 5, 6, 7, 8, 9, 10] : List Nat).filterMap (fun i => (xw G h x wn wa w0 w1 rd wr z jj lt)[i]?) = wb G (fun k => h (20 + k)) (fun k => h (10 + k)) wa wn := rfl
set_option maxRecDepth 100000 in
theorem yo_ahead_now (G : gG) (h : Nat → Nat) (x wn wa w0 w1 rd wr z : oS) (jj : Nat → Nat → Int64) (lt : Int64) (v : oS × oS) : ovr (xw G h x wn wa w0 w1 rd wr z jj lt) ([11, 12, 13, 14, 15, 16, 17, 18, 3, 4, 5, 6, 7, 8, 9, 10] : List Nat) (wb G (fun k => h (20 + k)) (fun k => h (10 + k)) v.1 v.2) = xw G h x v.2 v.1 w0 w1 rd wr z jj lt := by
  have e : ovr (xw G h x wn wa w0 w1 rd wr z jj lt) ([11, 12, 13, 14, 15, 16, 17, 18, 3, 4, 5, 6, 7, 8, 9, 10] : List Nat) (wb G (fun k => h (20 + k)) (fun k => h (10 + k)) v.1 v.2) = ovr (ovr (xw G h x wn wa w0 w1 rd wr z jj lt) [11, 12, 13, 14, 15, 16, 17, 18] (wv G (fun k => h (20 + k)) v.1)) [3, 4, 5, 6, 7, 8, 9, 10] (wv G (fun k => h (10 + k)) v.2) := ovr_app [11, 12, 13, 14, 15, 16, 17, 18] [3, 4, 5, 6, 7, 8, 9, 10] (xw G h x wn wa w0 w1 rd wr z jj lt) (wv G (fun k => h (20 + k)) v.1) (wv G (fun k => h (10 + k)) v.2) rfl
  rw [e, xo_ahead G h x wn wa w0 w1 rd wr z jj lt v.1]
  exact xo_now G h x wn v.1 w0 w1 rd wr z jj lt v.2
set_option maxRecDepth 100000 in
theorem ym_ahead_now (G : gG) (h : Nat → Nat) (x wn wa w0 w1 rd wr z : oS) (jj : Nat → Nat → Int64) (lt : Int64) (v : oS × oS) : (xw G h x v.2 v.1 w0 w1 rd wr z jj lt).map Prod.fst = (xw G h x wn wa w0 w1 rd wr z jj lt).map Prod.fst := rfl
set_option maxRecDepth 100000 in
theorem yc_now_ahead (G : gG) (h : Nat → Nat) (x wn wa w0 w1 rd wr z : oS) (jj : Nat → Nat → Int64) (lt : Int64) : ([3, 4, 5, 6, 7, 8, 9, 10, 11, 12, 13, 14, 15, 16, 17, 18] : List Nat).map (fun i => (xw G h x wn wa w0 w1 rd wr z jj lt)[i]?) = (wb G (fun k => h (10 + k)) (fun k => h (20 + k)) wn wa).map some := rfl
set_option maxRecDepth 100000 in
theorem yf_now_ahead (G : gG) (h : Nat → Nat) (x wn wa w0 w1 rd wr z : oS) (jj : Nat → Nat → Int64) (lt : Int64) : ([3, 4, 5, 6, 7, 8, 9, 10, 11, 12, 13, 14, 15, 16, 17, 18] : List Nat).filterMap (fun i => (xw G h x wn wa w0 w1 rd wr z jj lt)[i]?) = wb G (fun k => h (10 + k)) (fun k => h (20 + k)) wn wa := rfl
set_option maxRecDepth 100000 in
theorem yo_now_ahead (G : gG) (h : Nat → Nat) (x wn wa w0 w1 rd wr z : oS) (jj : Nat → Nat → Int64) (lt : Int64) (v : oS × oS) : ovr (xw G h x wn wa w0 w1 rd wr z jj lt) ([3, 4, 5, 6, 7, 8, 9, 10, 11, 12, 13, 14, 15, 16, 17, 18] : List Nat) (wb G (fun k => h (10 + k)) (fun k => h (20 + k)) v.1 v.2) = xw G h x v.1 v.2 w0 w1 rd wr z jj lt := by
  have e : ovr (xw G h x wn wa w0 w1 rd wr z jj lt) ([3, 4, 5, 6, 7, 8, 9, 10, 11, 12, 13, 14, 15, 16, 17, 18] : List Nat) (wb G (fun k => h (10 + k)) (fun k => h (20 + k)) v.1 v.2) = ovr (ovr (xw G h x wn wa w0 w1 rd wr z jj lt) [3, 4, 5, 6, 7, 8, 9, 10] (wv G (fun k => h (10 + k)) v.1)) [11, 12, 13, 14, 15, 16, 17, 18] (wv G (fun k => h (20 + k)) v.2) := ovr_app [3, 4, 5, 6, 7, 8, 9, 10] [11, 12, 13, 14, 15, 16, 17, 18] (xw G h x wn wa w0 w1 rd wr z jj lt) (wv G (fun k => h (10 + k)) v.1) (wv G (fun k => h (20 + k)) v.2) rfl
  rw [e, xo_now G h x wn wa w0 w1 rd wr z jj lt v.1]
  exact xo_ahead G h x v.1 wa w0 w1 rd wr z jj lt v.2
set_option maxRecDepth 100000 in
theorem ym_now_ahead (G : gG) (h : Nat → Nat) (x wn wa w0 w1 rd wr z : oS) (jj : Nat → Nat → Int64) (lt : Int64) (v : oS × oS) : (xw G h x v.1 v.2 w0 w1 rd wr z jj lt).map Prod.fst = (xw G h x wn wa w0 w1 rd wr z jj lt).map Prod.fst := rfl
set_option maxRecDepth 100000 in
theorem yc_im0_now (G : gG) (h : Nat → Nat) (x wn wa w0 w1 rd wr z : oS) (jj : Nat → Nat → Int64) (lt : Int64) : ([19, 20, 21, 22, 23, 24, 25, 26, 3, 4, 5, 6, 7, 8, 9, 10] : List Nat).map (fun i => (xw G h x wn wa w0 w1 rd wr z jj lt)[i]?) = (wb G (fun k => h (30 + k)) (fun k => h (10 + k)) w0 wn).map some := rfl
set_option maxRecDepth 100000 in
theorem yf_im0_now (G : gG) (h : Nat → Nat) (x wn wa w0 w1 rd wr z : oS) (jj : Nat → Nat → Int64) (lt : Int64) : ([19, 20, 21, 22, 23, 24, 25, 26, 3, 4, 5, 6, 7, 8, 9, 10] : List Nat).filterMap (fun i => (xw G h x wn wa w0 w1 rd wr z jj lt)[i]?) = wb G (fun k => h (30 + k)) (fun k => h (10 + k)) w0 wn := rfl
set_option maxRecDepth 100000 in
theorem yo_im0_now (G : gG) (h : Nat → Nat) (x wn wa w0 w1 rd wr z : oS) (jj : Nat → Nat → Int64) (lt : Int64) (v : oS × oS) : ovr (xw G h x wn wa w0 w1 rd wr z jj lt) ([19, 20, 21, 22, 23, 24, 25, 26, 3, 4, 5, 6, 7, 8, 9, 10] : List Nat) (wb G (fun k => h (30 + k)) (fun k => h (10 + k)) v.1 v.2) = xw G h x v.2 wa v.1 w1 rd wr z jj lt := by
  have e : ovr (xw G h x wn wa w0 w1 rd wr z jj lt) ([19, 20, 21, 22, 23, 24, 25, 26, 3, 4, 5, 6, 7, 8, 9, 10] : List Nat) (wb G (fun k => h (30 + k)) (fun k => h (10 + k)) v.1 v.2) = ovr (ovr (xw G h x wn wa w0 w1 rd wr z jj lt) [19, 20, 21, 22, 23, 24, 25, 26] (wv G (fun k => h (30 + k)) v.1)) [3, 4, 5, 6, 7, 8, 9, 10] (wv G (fun k => h (10 + k)) v.2) := ovr_app [19, 20, 21, 22, 23, 24, 25, 26] [3, 4, 5, 6, 7, 8, 9, 10] (xw G h x wn wa w0 w1 rd wr z jj lt) (wv G (fun k => h (30 + k)) v.1) (wv G (fun k => h (10 + k)) v.2) rfl
  rw [e, xo_im0 G h x wn wa w0 w1 rd wr z jj lt v.1]
  exact xo_now G h x wn wa v.1 w1 rd wr z jj lt v.2
set_option maxRecDepth 100000 in
theorem ym_im0_now (G : gG) (h : Nat → Nat) (x wn wa w0 w1 rd wr z : oS) (jj : Nat → Nat → Int64) (lt : Int64) (v : oS × oS) : (xw G h x v.2 wa v.1 w1 rd wr z jj lt).map Prod.fst = (xw G h x wn wa w0 w1 rd wr z jj lt).map Prod.fst := rfl
set_option maxRecDepth 100000 in
theorem yc_im1_now (G : gG) (h : Nat → Nat) (x wn wa w0 w1 rd wr z : oS) (jj : Nat → Nat → Int64) (lt : Int64) : ([27, 28, 29, 30, 31, 32, 33, 34, 3, 4, 5, 6, 7, 8, 9, 10] : List Nat).map (fun i => (xw G h x wn wa w0 w1 rd wr z jj lt)[i]?) = (wb G (fun k => h (40 + k)) (fun k => h (10 + k)) w1 wn).map some := rfl
set_option maxRecDepth 100000 in
theorem yf_im1_now (G : gG) (h : Nat → Nat) (x wn wa w0 w1 rd wr z : oS) (jj : Nat → Nat → Int64) (lt : Int64) : ([27, 28, 29, 30, 31, 32, 33, 34, 3, 4, 5, 6, 7, 8, 9, 10] : List Nat).filterMap (fun i => (xw G h x wn wa w0 w1 rd wr z jj lt)[i]?) = wb G (fun k => h (40 + k)) (fun k => h (10 + k)) w1 wn := rfl
set_option maxRecDepth 100000 in
theorem yo_im1_now (G : gG) (h : Nat → Nat) (x wn wa w0 w1 rd wr z : oS) (jj : Nat → Nat → Int64) (lt : Int64) (v : oS × oS) : ovr (xw G h x wn wa w0 w1 rd wr z jj lt) ([27, 28, 29, 30, 31, 32, 33, 34, 3, 4, 5, 6, 7, 8, 9, 10] : List Nat) (wb G (fun k => h (40 + k)) (fun k => h (10 + k)) v.1 v.2) = xw G h x v.2 wa w0 v.1 rd wr z jj lt := by
  have e : ovr (xw G h x wn wa w0 w1 rd wr z jj lt) ([27, 28, 29, 30, 31, 32, 33, 34, 3, 4, 5, 6, 7, 8, 9, 10] : List Nat) (wb G (fun k => h (40 + k)) (fun k => h (10 + k)) v.1 v.2) = ovr (ovr (xw G h x wn wa w0 w1 rd wr z jj lt) [27, 28, 29, 30, 31, 32, 33, 34] (wv G (fun k => h (40 + k)) v.1)) [3, 4, 5, 6, 7, 8, 9, 10] (wv G (fun k => h (10 + k)) v.2) := ovr_app [27, 28, 29, 30, 31, 32, 33, 34] [3, 4, 5, 6, 7, 8, 9, 10] (xw G h x wn wa w0 w1 rd wr z jj lt) (wv G (fun k => h (40 + k)) v.1) (wv G (fun k => h (10 + k)) v.2) rfl
  rw [e, xo_im1 G h x wn wa w0 w1 rd wr z jj lt v.1]
  exact xo_now G h x wn wa w0 v.1 rd wr z jj lt v.2
set_option maxRecDepth 100000 in
theorem ym_im1_now (G : gG) (h : Nat → Nat) (x wn wa w0 w1 rd wr z : oS) (jj : Nat → Nat → Int64) (lt : Int64) (v : oS × oS) : (xw G h x v.2 wa w0 v.1 rd wr z jj lt).map Prod.fst = (xw G h x wn wa w0 w1 rd wr z jj lt).map Prod.fst := rfl
set_option maxRecDepth 100000 in
theorem yc_now_im0 (G : gG) (h : Nat → Nat) (x wn wa w0 w1 rd wr z : oS) (jj : Nat → Nat → Int64) (lt : Int64) : ([3, 4, 5, 6, 7, 8, 9, 10, 19, 20, 21, 22, 23, 24, 25, 26] : List Nat).map (fun i => (xw G h x wn wa w0 w1 rd wr z jj lt)[i]?) = (wb G (fun k => h (10 + k)) (fun k => h (30 + k)) wn w0).map some := rfl
set_option maxRecDepth 100000 in
theorem yf_now_im0 (G : gG) (h : Nat → Nat) (x wn wa w0 w1 rd wr z : oS) (jj : Nat → Nat → Int64) (lt : Int64) : ([3, 4, 5, 6, 7, 8, 9, 10, 19, 20, 21, 22, 23, 24, 25, 26] : List Nat).filterMap (fun i => (xw G h x wn wa w0 w1 rd wr z jj lt)[i]?) = wb G (fun k => h (10 + k)) (fun k => h (30 + k)) wn w0 := rfl
set_option maxRecDepth 100000 in
theorem yo_now_im0 (G : gG) (h : Nat → Nat) (x wn wa w0 w1 rd wr z : oS) (jj : Nat → Nat → Int64) (lt : Int64) (v : oS × oS) : ovr (xw G h x wn wa w0 w1 rd wr z jj lt) ([3, 4, 5, 6, 7, 8, 9, 10, 19, 20, 21, 22, 23, 24, 25, 26] : List Nat) (wb G (fun k => h (10 + k)) (fun k => h (30 + k)) v.1 v.2) = xw G h x v.1 wa v.2 w1 rd wr z jj lt := by
  have e : ovr (xw G h x wn wa w0 w1 rd wr z jj lt) ([3, 4, 5, 6, 7, 8, 9, 10, 19, 20, 21, 22, 23, 24, 25, 26] : List Nat) (wb G (fun k => h (10 + k)) (fun k => h (30 + k)) v.1 v.2) = ovr (ovr (xw G h x wn wa w0 w1 rd wr z jj lt) [3, 4, 5, 6, 7, 8, 9, 10] (wv G (fun k => h (10 + k)) v.1)) [19, 20, 21, 22, 23, 24, 25, 26] (wv G (fun k => h (30 + k)) v.2) := ovr_app [3, 4, 5, 6, 7, 8, 9, 10] [19, 20, 21, 22, 23, 24, 25, 26] (xw G h x wn wa w0 w1 rd wr z jj lt) (wv G (fun k => h (10 + k)) v.1) (wv G (fun k => h (30 + k)) v.2) rfl
  rw [e, xo_now G h x wn wa w0 w1 rd wr z jj lt v.1]
  exact xo_im0 G h x v.1 wa w0 w1 rd wr z jj lt v.2
set_option maxRecDepth 100000 in
theorem ym_now_im0 (G : gG) (h : Nat → Nat) (x wn wa w0 w1 rd wr z : oS) (jj : Nat → Nat → Int64) (lt : Int64) (v : oS × oS) : (xw G h x v.1 wa v.2 w1 rd wr z jj lt).map Prod.fst = (xw G h x wn wa w0 w1 rd wr z jj lt).map Prod.fst := rfl
set_option maxRecDepth 100000 in
theorem yc_now_im1 (G : gG) (h : Nat → Nat) (x wn wa w0 w1 rd wr z : oS) (jj : Nat → Nat → Int64) (lt : Int64) : ([3, 4, 5, 6, 7, 8, 9, 10, 27, 28, 29, 30, 31, 32, 33, 34] : List Nat).map (fun i => (xw G h x wn wa w0 w1 rd wr z jj lt)[i]?) = (wb G (fun k => h (10 + k)) (fun k => h (40 + k)) wn w1).map some := rfl
set_option maxRecDepth 100000 in
theorem yf_now_im1 (G : gG) (h : Nat → Nat) (x wn wa w0 w1 rd wr z : oS) (jj : Nat → Nat → Int64) (lt : Int64) : ([3, 4, 5, 6, 7, 8, 9, 10, 27, 28, 29, 30, 31, 32, 33, 34] : List Nat).filterMap (fun i => (xw G h x wn wa w0 w1 rd wr z jj lt)[i]?) = wb G (fun k => h (10 + k)) (fun k => h (40 + k)) wn w1 := rfl
set_option maxRecDepth 100000 in
theorem yo_now_im1 (G : gG) (h : Nat → Nat) (x wn wa w0 w1 rd wr z : oS) (jj : Nat → Nat → Int64) (lt : Int64) (v : oS × oS) : ovr (xw G h x wn wa w0 w1 rd wr z jj lt) ([3, 4, 5, 6, 7, 8, 9, 10, 27, 28, 29, 30, 31, 32, 33, 34] : List Nat) (wb G (fun k => h (10 + k)) (fun k => h (40 + k)) v.1 v.2) = xw G h x v.1 wa w0 v.2 rd wr z jj lt := by
  have e : ovr (xw G h x wn wa w0 w1 rd wr z jj lt) ([3, 4, 5, 6, 7, 8, 9, 10, 27, 28, 29, 30, 31, 32, 33, 34] : List Nat) (wb G (fun k => h (10 + k)) (fun k => h (40 + k)) v.1 v.2) = ovr (ovr (xw G h x wn wa w0 w1 rd wr z jj lt) [3, 4, 5, 6, 7, 8, 9, 10] (wv G (fun k => h (10 + k)) v.1)) [27, 28, 29, 30, 31, 32, 33, 34] (wv G (fun k => h (40 + k)) v.2) := ovr_app [3, 4, 5, 6, 7, 8, 9, 10] [27, 28, 29, 30, 31, 32, 33, 34] (xw G h x wn wa w0 w1 rd wr z jj lt) (wv G (fun k => h (10 + k)) v.1) (wv G (fun k => h (40 + k)) v.2) rfl
  rw [e, xo_now G h x wn wa w0 w1 rd wr z jj lt v.1]
  exact xo_im1 G h x v.1 wa w0 w1 rd wr z jj lt v.2
set_option maxRecDepth 100000 in
theorem ym_now_im1 (G : gG) (h : Nat → Nat) (x wn wa w0 w1 rd wr z : oS) (jj : Nat → Nat → Int64) (lt : Int64) (v : oS × oS) : (xw G h x v.1 wa w0 v.2 rd wr z jj lt).map Prod.fst = (xw G h x wn wa w0 w1 rd wr z jj lt).map Prod.fst := rfl
set_option maxRecDepth 100000 in
theorem xs_2 (G : gG) (h : Nat → Nat) (x wn wa w0 w1 rd wr z : oS) (jj : Nat → Nat → Int64) (lt : Int64) (f : Nat → Int32) : (xw G h x wn wa w0 w1 rd wr z jj lt).set 2 (h 3, .inl (G.2.2 2, 2, .inl f)) = xw G h (oA x 3 f) wn wa w0 w1 rd wr z jj lt := rfl
set_option maxRecDepth 100000 in
theorem xs_49 (G : gG) (h : Nat → Nat) (x wn wa w0 w1 rd wr z : oS) (jj : Nat → Nat → Int64) (lt : Int64) (f : Nat → Int32) : (xw G h x wn wa w0 w1 rd wr z jj lt).set 49 (h 72, .inl (G.2.2 0, 4, .inl f)) = xw G h x wn wa w0 w1 rd wr (oA z 1 f) jj lt := rfl
set_option maxRecDepth 100000 in
theorem xs_50 (G : gG) (h : Nat → Nat) (x wn wa w0 w1 rd wr z : oS) (jj : Nat → Nat → Int64) (lt : Int64) (f : Nat → Int64) : (xw G h x wn wa w0 w1 rd wr z jj lt).set 50 (h 73, .inl (G.2.2 1, 40, .inr (.inl f))) = xw G h x wn wa w0 w1 rd wr z (va_up jj 0 f) lt := rfl
set_option maxRecDepth 100000 in
theorem xs_51 (G : gG) (h : Nat → Nat) (x wn wa w0 w1 rd wr z : oS) (jj : Nat → Nat → Int64) (lt : Int64) (f : Nat → Int64) : (xw G h x wn wa w0 w1 rd wr z jj lt).set 51 (h 74, .inl (G.2.2 1, 40, .inr (.inl f))) = xw G h x wn wa w0 w1 rd wr z (va_up jj 1 f) lt := rfl
set_option maxRecDepth 100000 in
theorem xs_52 (G : gG) (h : Nat → Nat) (x wn wa w0 w1 rd wr z : oS) (jj : Nat → Nat → Int64) (lt : Int64) (f : Nat → Int64) : (xw G h x wn wa w0 w1 rd wr z jj lt).set 52 (h 75, .inl (G.2.2 1, 40, .inr (.inl f))) = xw G h x wn wa w0 w1 rd wr z (va_up jj 2 f) lt := rfl
set_option maxRecDepth 100000 in
theorem xs_53 (G : gG) (h : Nat → Nat) (x wn wa w0 w1 rd wr z : oS) (jj : Nat → Nat → Int64) (lt : Int64) (f : Nat → Int64) : (xw G h x wn wa w0 w1 rd wr z jj lt).set 53 (h 76, .inl (G.2.2 1, 40, .inr (.inl f))) = xw G h x wn wa w0 w1 rd wr z (va_up jj 3 f) lt := rfl
