/-! THE CLAIM OUT OF ONE WALK OF THE LAW'S BODY. Your part is whole_start (and what it stands on); all else here is the same for every law, but numbers. -/
def R_law : String := "WovenHistoryLaw"
def lw_P (b : Addr) (xs : List Int32) (args : Array Value) (s : State) : Prop := args = #[.ref b] ∧ s.IntsAt b xs ∧ xs.length ≤ 2560 ∧ (Jvm.Cond.and given_1 narrow_1).before args s = true
def lw_Q (_ : Array Value) (s : State) (o : Outcome) (t : State) : Prop := o = .returned (some (.int 1)) ∧ Framed s o t [] 600000 7302249
def lw_Z (below : List Frame) (a : Array Value) (s : State) : State → Prop := fun t => ∃ o, t.status = .running ∧ Ended t below o ∧ lw_Q a s o t
/-- the law's own end, with 1 on the stack, nothing written that was there before, its room as the claim has it -/
theorem lw_ret {p : Program} {l : Launch} {e : Env} {s : State} {m : MethodId} {below : List Frame} {meth : Method} {c : Code} {b : Nat} (hx : p.tables.exec = Jvm.exec) (hb : c.code = code) (hr : meth.sig.returnType = ret) (hlocks : meth.locks = false) {pc : Nat} {H : Heap} {ls : Array Slot} (hdg : decode code pc = .ok (.ireturn, 1)) : W p l e room_1 s m #[Value.ref b] below meth c H [] 600000 7302249 (lw_Z below #[Value.ref b] s) (F0 m pc ls [.int 1]) := by
  intro T hT X
  obtain ⟨fs, hret, hrun, hended, hW, hframe⟩ := X.leave (v := some (.int 1)) (hlocks := hlocks) (fun h => by rw [hr] at h; cases h)
  have hmeth' : T.vm.method? m = some meth := X.method'
  refine ⟨T.setFrames fs, ?_, .returned (some (.int 1)), hrun, hended, rfl, ⟨_, rfl⟩, hW, hframe⟩
  jvm_step X.here [X.here.top, hx, hb, hdg, hmeth', hr, ret, narrow_b1]
  (try refine ⟨rfl, ?_⟩); (try refine ⟨rfl, ?_⟩)
  first | (intro acts; rw [hret _ acts rfl rfl rfl]) | rw [hret _ _ rfl rfl rfl]
  exact Steps.refl _
/-- what holds at the law's entry: the machine, the code, the tables' words (any of lw_tbl by 'hts w (by decide +kernel)'), the script of L ints xs at the cell b, what the Statement gives of the start (any of its parts by flat_of_before) -/
def lw_At (p : Program) (s : State) (m : MethodId) (meth : Method) (c : Code) (b L : Nat) (xs : Nat → Int32) : Prop :=
  p.tables.exec = Jvm.exec ∧ c.code = code ∧ meth.sig.returnType = ret ∧ c.maxLocals = 4 ∧ s.vm.findClass R_law = some m.cls ∧ (∀ w ∈ lw_tbl, w.before #[Value.ref b] s = true) ∧ va_X b L xs s s.heap ∧ b < s.heap.size ∧ meth.locks = false ∧ (Jvm.Cond.and given_1 narrow_1).before #[Value.ref b] s = true
/-! the law: what holds between class and reference at the head of its loop -/
def LI (x wn wa w0 w1 rd z : oS) (jj : Nat → Nat → Int64) (u : oS) (sj : Nat → Int64) : Prop := ∃ (sg : pS) (zz : Nat → Nat → Int64), IS sg ∧ RepX x wn wa w0 w1 rd z jj sg zz ∧ RepM u sj sg zz
def LWd (G : gG) (ax am : Nat → Nat) (x wn wa w0 w1 rd wr z : oS) (jj : Nat → Nat → Int64) (lt : Int64) (u : oS) (lm : Int64) (sj : Nat → Int64) : va_W := xw G ax x wn wa w0 w1 rd wr z jj lt ++ mw G am u lm sj
def LKC (p : Program) (l : Launch) (e : Env) (s : State) (m : MethodId) (below : List Frame) (meth : Method) (c : Code) (G : gG) (ax am : Nat → Nat) (b i pc : Nat) : Prop := ∀ (x wn wa w0 w1 rd wr z : oS) (jj : Nat → Nat → Int64) (lt : Int64) (u : oS) (lm : Int64) (sj : Nat → Int64), LI x wn wa w0 w1 rd z jj u sj → ∀ (H : Heap) (locs : List Loc) (ls : Array Slot), PP G (LWd G ax am x wn wa w0 w1 rd wr z jj lt u lm sj) H → va_D (fun q : Nat => s.heap.size ≤ q) (LWd G ax am x wn wa w0 w1 rd wr z jj lt u lm sj) → va_S (fun q : Nat => s.heap.size ≤ q) s.heap H locs → lv_has ls 4 [(0, .ref b), (1, .ref (ax 0)), (2, .ref (am 0)), (3, .int (nI i))] → W p l e room_1 s m #[Value.ref b] below meth c H locs 81 5901 (lw_Z below #[Value.ref b] s) (F0 m pc ls [])
theorem law_lt {L i : Nat} (hL : L ≤ 2560) (hi : i ≤ 2560) (h : ¬ nI L - nI 5 < nI i) : i + 5 ≤ L := by
  rw [Int32.lt_iff_toInt_lt, nI_T (by omega), pk_sub_toInt (a := L) (b := 5) (by omega) (by omega)] at h
  omega
set_option maxRecDepth 100000 in
theorem lxc (G : gG) (ax am : Nat → Nat) (x wn wa w0 w1 rd wr z : oS) (jj : Nat → Nat → Int64) (lt : Int64) (u : oS) (lm : Int64) (sj : Nat → Int64) : ([0, 1, 2, 3, 4, 5, 6, 7, 8, 9, 10, 11, 12, 13, 14, 15, 16, 17, 18, 19, 20, 21, 22, 23, 24, 25, 26, 27, 28, 29, 30, 31, 32, 33, 34, 35, 36, 37, 38, 39, 40, 41, 42, 43, 44, 45, 46, 47, 48, 49, 50, 51, 52, 53, 54] : List Nat).map (fun i => (LWd G ax am x wn wa w0 w1 rd wr z jj lt u lm sj)[i]?) = (xw G ax x wn wa w0 w1 rd wr z jj lt).map some := rfl
set_option maxRecDepth 100000 in
theorem lxf (G : gG) (ax am : Nat → Nat) (x wn wa w0 w1 rd wr z : oS) (jj : Nat → Nat → Int64) (lt : Int64) (u : oS) (lm : Int64) (sj : Nat → Int64) : ([0, 1, 2, 3, 4, 5, 6, 7, 8, 9, 10, 11, 12, 13, 14, 15, 16, 17, 18, 19, 20, 21, 22, 23, 24, 25, 26, 27, 28, 29, 30, 31, 32, 33, 34, 35, 36, 37, 38, 39, 40, 41, 42, 43, 44, 45, 46, 47, 48, 49, 50, 51, 52, 53, 54] : List Nat).filterMap (fun i => (LWd G ax am x wn wa w0 w1 rd wr z jj lt u lm sj)[i]?) = xw G ax x wn wa w0 w1 rd wr z jj lt := rfl
set_option maxRecDepth 100000 in
theorem lxo (G : gG) (ax am : Nat → Nat) (x wn wa w0 w1 rd wr z : oS) (jj : Nat → Nat → Int64) (lt : Int64) (u : oS) (lm : Int64) (sj : Nat → Int64) (v : oS × oS × oS × oS × oS × oS × oS × oS × (Nat → Nat → Int64) × Int64) : ovr (LWd G ax am x wn wa w0 w1 rd wr z jj lt u lm sj) ([0, 1, 2, 3, 4, 5, 6, 7, 8, 9, 10, 11, 12, 13, 14, 15, 16, 17, 18, 19, 20, 21, 22, 23, 24, 25, 26, 27, 28, 29, 30, 31, 32, 33, 34, 35, 36, 37, 38, 39, 40, 41, 42, 43, 44, 45, 46, 47, 48, 49, 50, 51, 52, 53, 54] : List Nat) (xw G ax v.1 v.2.1 v.2.2.1 v.2.2.2.1 v.2.2.2.2.1 v.2.2.2.2.2.1 v.2.2.2.2.2.2.1 v.2.2.2.2.2.2.2.1 v.2.2.2.2.2.2.2.2.1 v.2.2.2.2.2.2.2.2.2) = LWd G ax am v.1 v.2.1 v.2.2.1 v.2.2.2.1 v.2.2.2.2.1 v.2.2.2.2.2.1 v.2.2.2.2.2.2.1 v.2.2.2.2.2.2.2.1 v.2.2.2.2.2.2.2.2.1 v.2.2.2.2.2.2.2.2.2 u lm sj := ovr_mid (xw G ax x wn wa w0 w1 rd wr z jj lt) (xw G ax v.1 v.2.1 v.2.2.1 v.2.2.2.1 v.2.2.2.2.1 v.2.2.2.2.2.1 v.2.2.2.2.2.2.1 v.2.2.2.2.2.2.2.1 v.2.2.2.2.2.2.2.2.1 v.2.2.2.2.2.2.2.2.2) [] (mw G am u lm sj) rfl
set_option maxRecDepth 100000 in
theorem lxm (G : gG) (ax am : Nat → Nat) (x wn wa w0 w1 rd wr z : oS) (jj : Nat → Nat → Int64) (lt : Int64) (u : oS) (lm : Int64) (sj : Nat → Int64) (v : oS × oS × oS × oS × oS × oS × oS × oS × (Nat → Nat → Int64) × Int64) : (LWd G ax am v.1 v.2.1 v.2.2.1 v.2.2.2.1 v.2.2.2.2.1 v.2.2.2.2.2.1 v.2.2.2.2.2.2.1 v.2.2.2.2.2.2.2.1 v.2.2.2.2.2.2.2.2.1 v.2.2.2.2.2.2.2.2.2 u lm sj).map Prod.fst = (LWd G ax am x wn wa w0 w1 rd wr z jj lt u lm sj).map Prod.fst := rfl
set_option maxRecDepth 100000 in
theorem lxl (G : gG) (ax am : Nat → Nat) (x wn wa w0 w1 rd wr z : oS) (jj : Nat → Nat → Int64) (lt : Int64) (u : oS) (lm : Int64) (sj : Nat → Int64) (v : oS × oS × oS × oS × oS × oS × oS × oS × (Nat → Nat → Int64) × Int64) : (xw G ax v.1 v.2.1 v.2.2.1 v.2.2.2.1 v.2.2.2.2.1 v.2.2.2.2.2.1 v.2.2.2.2.2.2.1 v.2.2.2.2.2.2.2.1 v.2.2.2.2.2.2.2.2.1 v.2.2.2.2.2.2.2.2.2).length = (xw G ax x wn wa w0 w1 rd wr z jj lt).length := rfl
set_option maxRecDepth 100000 in
theorem lmc (G : gG) (ax am : Nat → Nat) (x wn wa w0 w1 rd wr z : oS) (jj : Nat → Nat → Int64) (lt : Int64) (u : oS) (lm : Int64) (sj : Nat → Int64) : ([55, 56, 57, 58, 59, 60, 61, 62, 63, 64, 65, 66, 67, 68, 69, 70, 71, 72, 73, 74, 75, 76, 77, 78, 79, 80] : List Nat).map (fun i => (LWd G ax am x wn wa w0 w1 rd wr z jj lt u lm sj)[i]?) = (mw G am u lm sj).map some := rfl
set_option maxRecDepth 100000 in
theorem lmf (G : gG) (ax am : Nat → Nat) (x wn wa w0 w1 rd wr z : oS) (jj : Nat → Nat → Int64) (lt : Int64) (u : oS) (lm : Int64) (sj : Nat → Int64) : ([55, 56, 57, 58, 59, 60, 61, 62, 63, 64, 65, 66, 67, 68, 69, 70, 71, 72, 73, 74, 75, 76, 77, 78, 79, 80] : List Nat).filterMap (fun i => (LWd G ax am x wn wa w0 w1 rd wr z jj lt u lm sj)[i]?) = mw G am u lm sj := rfl
set_option maxRecDepth 100000 in
theorem lmo (G : gG) (ax am : Nat → Nat) (x wn wa w0 w1 rd wr z : oS) (jj : Nat → Nat → Int64) (lt : Int64) (u : oS) (lm : Int64) (sj : Nat → Int64) (v : oS × Int64 × (Nat → Int64)) : ovr (LWd G ax am x wn wa w0 w1 rd wr z jj lt u lm sj) ([55, 56, 57, 58, 59, 60, 61, 62, 63, 64, 65, 66, 67, 68, 69, 70, 71, 72, 73, 74, 75, 76, 77, 78, 79, 80] : List Nat) (mw G am v.1 v.2.1 v.2.2) = LWd G ax am x wn wa w0 w1 rd wr z jj lt v.1 v.2.1 v.2.2 := ovr_end (xw G ax x wn wa w0 w1 rd wr z jj lt) (mw G am u lm sj) (mw G am v.1 v.2.1 v.2.2) rfl
set_option maxRecDepth 100000 in
theorem lmm (G : gG) (ax am : Nat → Nat) (x wn wa w0 w1 rd wr z : oS) (jj : Nat → Nat → Int64) (lt : Int64) (u : oS) (lm : Int64) (sj : Nat → Int64) (v : oS × Int64 × (Nat → Int64)) : (LWd G ax am x wn wa w0 w1 rd wr z jj lt v.1 v.2.1 v.2.2).map Prod.fst = (LWd G ax am x wn wa w0 w1 rd wr z jj lt u lm sj).map Prod.fst := rfl
set_option maxRecDepth 100000 in
theorem lml (G : gG) (ax am : Nat → Nat) (x wn wa w0 w1 rd wr z : oS) (jj : Nat → Nat → Int64) (lt : Int64) (u : oS) (lm : Int64) (sj : Nat → Int64) (v : oS × Int64 × (Nat → Int64)) : (mw G am v.1 v.2.1 v.2.2).length = (mw G am u lm sj).length := rfl
