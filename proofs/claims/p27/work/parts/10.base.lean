/-! the base: which class ids, the worlds' words, rows with Nat indices, calls -/
abbrev gG : Type := (Nat → ClassId) × (Nat → Nat → Nat) × (Nat → ClassId)
abbrev gD (G : gG) : va_G := (G.1, G.2.1)
abbrev tyG (G : gG) : List (ClassId × FieldType) := [(G.2.2 0, .int), (G.2.2 1, .long), (G.2.2 2, .boolean), (G.2.2 3, .object "WovenHistory$Weave"), (G.2.2 4, .array .long)]
/-- field links among nest mates: own, entry, class, field, descriptor -/
def nF : List (String × Nat × String × String × String) := [("WovenHistory", 111, "WovenHistory$Weave", "from", "[I"), ("WovenHistory", 115, "WovenHistory$Weave", "changes", "[I"), ("WovenHistory", 118, "WovenHistory$Weave", "included", "[I"), ("WovenHistory", 121, "WovenHistory$Weave", "excluded", "[I"), ("WovenHistory", 136, "WovenHistory$Weave", "sign", "[I"), ("WovenHistory", 139, "WovenHistory$Weave", "brought", "[I"), ("WovenHistory", 142, "WovenHistory$Weave", "took", "[I"), ("WovenHistory", 229, "WovenHistory$Sheets", "numbers", "[[J"), ("WovenHistory", 233, "WovenHistory$Sheets", "sizes", "[I"), ("WovenHistory", 61, "WovenHistory$Reader", "length", "I"), ("WovenHistory", 69, "WovenHistory$Reader", "faultAt", "I"), ("WovenHistory", 72, "WovenHistory$Reader", "woven", "LWovenHistory$Weave;"), ("WovenHistory", 82, "WovenHistory$Weave", "versions", "I"), ("WovenHistory", 85, "WovenHistory$Weave", "lines", "I"), ("WovenHistory$Reader", 123, "WovenHistory$Weave", "lines", "I"), ("WovenHistory$Reader", 76, "WovenHistory$Weave", "versions", "I")]
def nM : Cond := .methodLinkNest "WovenHistory$Reader" 111 yX4_isSign "WovenHistory"
def NN (U : State) : Prop := (∀ q ∈ nF, va_Nw (.fieldLinkNest q.1 q.2.1 q.2.2.1 q.2.2.2.1 q.2.2.2.2 "WovenHistory") U) ∧ va_Nw nM U
theorem NN.warm {s U : State} (hW : s.WarmedH U.vm) (h : NN s) : NN U := ⟨fun q hq => va_Nw.warmF hW (h.1 q hq), va_Nw.warmM hW h.2⟩
theorem NN.same {u U : State} (e : u.vm = U.vm) (h : NN u) : NN U := ⟨fun q hq => va_Nw.same rfl e (h.1 q hq), va_Nw.same rfl e h.2⟩
abbrev PP (G : gG) (ws : va_W) (H : Heap) : Prop := va_P (gD G) vwCl ws H
abbrev KK (G : gG) (U : State) : Prop := va_K (gD G) vwCl (tyG G) U
/-- a contract's start: reading alone; writing too -/
def preR (G : gG) (w : va_W) (As : List Value) : Array Value → State → Prop := va_Pc As (fun U => PP G w U.heap ∧ KK G U ∧ NN U)
def preW (G : gG) (w : va_W) (sz : Nat) (As : List Value) : Array Value → State → Prop := va_Pc As (fun U => U.heap.size = sz ∧ PP G w U.heap ∧ KK G U ∧ NN U ∧ va_D (fun _ => True) w)
def preS (As : List Value) : Array Value → State → Prop := va_Pc As (fun _ => True)
theorem preR_blind {G : gG} {w : va_W} {As : List Value} : FrameBlind (preR G w As) := fun a U g mk q => ⟨q.1, q.2.1, va_K.moved (u := U) (U := U.calling g mk a) (Vm.Alike.refl U.vm) q.2.2.1, NN.same (u := U) rfl q.2.2.2⟩
theorem preW_blind {G : gG} {w : va_W} {sz : Nat} {As : List Value} : FrameBlind (preW G w sz As) := fun a U g mk q => ⟨q.1, q.2.1, q.2.2.1, va_K.moved (u := U) (U := U.calling g mk a) (Vm.Alike.refl U.vm) q.2.2.2.1, NN.same (u := U) rfl q.2.2.2.2.1, q.2.2.2.2.2⟩
theorem preS_blind {As : List Value} : FrameBlind (preS As) := fun _ _ _ _ q => ⟨q.1, trivial⟩
/-- what a callee's end says where it may write: the answer, the new state, its world; other cells stay -/
abbrev qI {S : Type} (G : gG) (w : va_W) (sz : Nat) (w1 : S → va_W) (post : Int32 → S → Prop) := va_Qi post (fun u t => PP G (w1 u) t.heap) (va_A w sz)
abbrev qL {S : Type} (G : gG) (w : va_W) (sz : Nat) (w1 : S → va_W) (post : Int64 → S → Prop) := va_Ql post (fun u t => PP G (w1 u) t.heap) (va_A w sz)
abbrev qV {S : Type} (G : gG) (w : va_W) (sz : Nat) (w1 : S → va_W) (post : S → Prop) := va_Qv post (fun u t => PP G (w1 u) t.heap) (va_A w sz)
/-- the same addresses: apart as before -/
theorem va_D.fst {A : Nat → Prop} {w w' : va_W} (h : va_D A w) (e : w'.map Prod.fst = w.map Prod.fst) : va_D A w' := by
  have key : ∀ (k : Nat) (q : Nat × va_E), w'[k]? = some q → ∃ q0, w[k]? = some q0 ∧ q0.1 = q.1 := by
    intro k q hk
    have h1 : (w'.map Prod.fst)[k]? = some q.1 := by rw [List.getElem?_map, hk]; rfl
    rw [e, List.getElem?_map] at h1
    cases h2 : w[k]? with
    | none => rw [h2] at h1; cases h1
    | some q0 => rw [h2] at h1; exact ⟨q0, rfl, Option.some.inj h1⟩
  refine ⟨fun i j x y hi hj hxy => ?_, fun k q hk => ?_⟩
  · obtain ⟨x0, h1, h2⟩ := key i x hi
    obtain ⟨y0, h3, h4⟩ := key j y hj
    exact h.1 i j x0 y0 h1 h3 (h2.trans (hxy.trans h4.symm))
  · obtain ⟨q0, h1, h2⟩ := key k q hk
    rw [← h2]
    exact h.2 k q0 h1
/-- cells of a world put in at places of another -/
def ovr : va_W → List Nat → va_W → va_W
  | w, i :: is, q :: qs => ovr (w.set i q) is qs
  | w, _, _ => w
theorem ovr_ne : ∀ (is : List Nat) (w qs : va_W) (k : Nat), k ∉ is → (ovr w is qs)[k]? = w[k]?
  | [], w, qs, k, _ => by cases qs <;> rfl
  | i :: is, w, [], k, _ => rfl
  | i :: is, w, q :: qs, k, h => by
    rw [ovr, ovr_ne is _ qs k (fun h2 => h (List.mem_cons_of_mem _ h2))]
    exact List.getElem?_set_ne (fun e => h (by rw [e]; exact List.mem_cons_self))
theorem ovr_mem : ∀ (is : List Nat) (w qs : va_W) (k : Nat) (x : Nat × va_E), (ovr w is qs)[k]? = some x → (k ∉ is.take qs.length ∧ w[k]? = some x) ∨ x ∈ qs
  | [], w, qs, k, x, h => by
    left
    refine ⟨by simp, ?_⟩
    cases qs <;> exact h
  | i :: is, w, [], k, x, h => Or.inl ⟨by simp, h⟩
  | i :: is, w, q :: qs, k, x, h => by
    rw [ovr] at h
    rcases ovr_mem is (w.set i q) qs k x h with ⟨h1, h2⟩ | h2
    · by_cases e : k = i
      · subst e
        by_cases hl : k < w.length
        · rw [List.getElem?_set_self hl] at h2
          right
          rw [← Option.some.inj h2]
          exact List.mem_cons_self
        · have : (w.set k q)[k]? = none := List.getElem?_eq_none (by rw [List.length_set]; omega)
          rw [this] at h2
          cases h2
      · rw [List.getElem?_set_ne (Ne.symm e)] at h2
        left
        refine ⟨?_, h2⟩
        simp only [List.length_cons, List.take_succ_cons, List.mem_cons, not_or]
        exact ⟨e, h1⟩
    · exact Or.inr (List.mem_cons_of_mem _ h2)
/-- behind a call: the callee's cells at their places, the others as they were -/
theorem jn {A0 : Nat → Prop} {G : gG} {ws wc w1 ws' : va_W} {H H1 : Heap} (hP : PP G ws H) (hD : va_D A0 ws) (isC : List Nat) (hC : isC.map (fun i => ws[i]?) = wc.map some) (hlen : w1.length = wc.length) (hw : ovr ws isC w1 = ws')
    (hk : ∀ q : Nat, q < H.size → ¬ va_A wc H.size q → H1[q]? = H[q]?) (hP1 : PP G w1 H1) : PP G ws' H1 := by
  subst hw
  intro k x hx
  rcases ovr_mem isC ws w1 k x hx with ⟨h1, h2⟩ | h2
  · have hl := (hP k x h2).lt
    refine (hP k x h2).kept (hk x.1 hl ?_)
    rintro (⟨k2, e, h⟩ | h)
    · have h3 : (isC.map (fun i => ws[i]?))[k2]? = some (some (x.1, e)) := by rw [hC, List.getElem?_map, h]; rfl
      rw [List.getElem?_map] at h3
      cases hi : isC[k2]? with
      | none => rw [hi] at h3; cases h3
      | some i =>
        rw [hi] at h3
        have hij := hD.1 k i x (x.1, e) h2 (Option.some.inj h3) rfl
        subst hij
        apply h1
        have hlc : isC.length = w1.length := by
          have := congrArg List.length hC
          simp only [List.length_map] at this
          omega
        rw [← hlc, List.take_length]
        exact List.mem_of_getElem? hi
    · omega
  · obtain ⟨j, hj⟩ := List.getElem?_of_mem h2
    exact hP1 j x hj
section BASE
variable {p : Program} {l : Launch} {e : Env} {R : Room} {s : State} {m : MethodId} {args : Array Value} {below : List Frame} {meth : Method} {c : Code} {H : Heap} {locs : List Loc} {cells slots : Nat} {Q : State → Prop}
variable {cc : ByteArray} {pc : Nat} {ls : Array Slot} {rest : List Value} {G : gG} {A : Nat → Prop} {a : Nat} {ws : va_W} {H0 : Heap}
theorem ialdN (hx : p.tables.exec = Jvm.exec) (hb : c.code = cc) (hK : KK G s) (hP : PP G ws H) (q0 : Nat) {n : Nat} {f : Nat → Int32} (ha : ws[q0]? = some (a, .inl (G.2.2 0, n, .inl f))) (hn : Nat.ble (n + 1) (2 ^ 31) = true) {k : Nat} (hk : k < n) (hdg : decode cc pc = .ok (.iaload, 1))
    (kk : W p l e R s m args below meth c H locs cells slots Q (F0 m (pc + 1) ls (.int (f k) :: rest))) : W p l e R s m args below meth c H locs cells slots Q (F0 m pc ls (.int (nI k) :: .ref a :: rest)) := by
  have h2 := Nat.le_of_ble_eq_true hn
  refine va_iald hx hb hK hP q0 0 ha rfl (vp_in_nI hk h2) hdg ?_
  rw [nI_clamp (by omega)]
  exact kk
theorem zaldN (hx : p.tables.exec = Jvm.exec) (hb : c.code = cc) (hK : KK G s) (hP : PP G ws H) (q0 : Nat) {n : Nat} {f : Nat → Int32} (ha : ws[q0]? = some (a, .inl (G.2.2 2, n, .inl f))) (hn : Nat.ble (n + 1) (2 ^ 31) = true) {k : Nat} (hk : k < n) (hdg : decode cc pc = .ok (.baload, 1))
    (kk : W p l e R s m args below meth c H locs cells slots Q (F0 m (pc + 1) ls (.int (f k) :: rest))) : W p l e R s m args below meth c H locs cells slots Q (F0 m pc ls (.int (nI k) :: .ref a :: rest)) := by
  have h2 := Nat.le_of_ble_eq_true hn
  refine va_zald hx hb hK hP q0 2 ha rfl (vp_in_nI hk h2) hdg ?_
  rw [nI_clamp (by omega)]
  exact kk
theorem laldN (hx : p.tables.exec = Jvm.exec) (hb : c.code = cc) (hK : KK G s) (hP : PP G ws H) (q0 : Nat) {n : Nat} {f : Nat → Int64} (ha : ws[q0]? = some (a, .inl (G.2.2 1, n, .inr (.inl f)))) (hn : Nat.ble (n + 1) (2 ^ 31) = true) {k : Nat} (hk : k < n) (hdg : decode cc pc = .ok (.laload, 1))
    (kk : W p l e R s m args below meth c H locs cells slots Q (F0 m (pc + 1) ls (.long (f k) :: rest))) : W p l e R s m args below meth c H locs cells slots Q (F0 m pc ls (.int (nI k) :: .ref a :: rest)) := by
  have h2 := Nat.le_of_ble_eq_true hn
  refine va_lald hx hb hK hP q0 1 ha rfl (vp_in_nI hk h2) hdg ?_
  rw [nI_clamp (by omega)]
  exact kk
theorem iastN (hx : p.tables.exec = Jvm.exec) (hb : c.code = cc) (hK : KK G s) (hP : PP G ws H) (hD : va_D A ws) (hS : va_S A H0 H locs) (q0 : Nat) {n : Nat} {f : Nat → Int32} (ha : ws[q0]? = some (a, .inl (G.2.2 0, n, .inl f))) (hn : Nat.ble (n + 1) (2 ^ 31) = true) {k : Nat} {x : Int32} (hk : k < n) (hdg : decode cc pc = .ok (.iastore, 1))
    (kk : ∀ (H1 : Heap) (locs1 : List Loc), PP G (ws.set q0 (a, .inl (G.2.2 0, n, .inl (upd f k x)))) H1 → va_D A (ws.set q0 (a, .inl (G.2.2 0, n, .inl (upd f k x)))) → va_S A H0 H1 locs1 → W p l e R s m args below meth c H1 locs1 cells slots Q (F0 m (pc + 1) ls rest)) : W p l e R s m args below meth c H locs cells slots Q (F0 m pc ls (.int x :: .int (nI k) :: .ref a :: rest)) := by
  have h2 := Nat.le_of_ble_eq_true hn
  refine va_iast hx hb hK hP hD hS q0 0 ha rfl (vp_in_nI hk h2) hdg ?_
  rw [nI_clamp (by omega)]
  exact kk
theorem zastN (hx : p.tables.exec = Jvm.exec) (hb : c.code = cc) (hK : KK G s) (hP : PP G ws H) (hD : va_D A ws) (hS : va_S A H0 H locs) (q0 : Nat) {n : Nat} {f : Nat → Int32} (ha : ws[q0]? = some (a, .inl (G.2.2 2, n, .inl f))) (hn : Nat.ble (n + 1) (2 ^ 31) = true) {k : Nat} {x : Int32} (hk : k < n) (h01 : x = 0 ∨ x = 1) (hdg : decode cc pc = .ok (.bastore, 1))
    (kk : ∀ (H1 : Heap) (locs1 : List Loc), PP G (ws.set q0 (a, .inl (G.2.2 2, n, .inl (upd f k x)))) H1 → va_D A (ws.set q0 (a, .inl (G.2.2 2, n, .inl (upd f k x)))) → va_S A H0 H1 locs1 → W p l e R s m args below meth c H1 locs1 cells slots Q (F0 m (pc + 1) ls rest)) : W p l e R s m args below meth c H locs cells slots Q (F0 m pc ls (.int x :: .int (nI k) :: .ref a :: rest)) := by
  have h2 := Nat.le_of_ble_eq_true hn
  refine va_zast hx hb hK hP hD hS q0 2 ha rfl (vp_in_nI hk h2) hdg ?_
  have hz : vp_nar .boolean x = x := by rcases h01 with rfl | rfl <;> decide +kernel
  rw [nI_clamp (by omega), hz]
  exact kk
theorem lastN (hx : p.tables.exec = Jvm.exec) (hb : c.code = cc) (hK : KK G s) (hP : PP G ws H) (hD : va_D A ws) (hS : va_S A H0 H locs) (q0 : Nat) {n : Nat} {f : Nat → Int64} (ha : ws[q0]? = some (a, .inl (G.2.2 1, n, .inr (.inl f)))) (hn : Nat.ble (n + 1) (2 ^ 31) = true) {k : Nat} {x : Int64} (hk : k < n) (hdg : decode cc pc = .ok (.lastore, 1))
    (kk : ∀ (H1 : Heap) (locs1 : List Loc), PP G (ws.set q0 (a, .inl (G.2.2 1, n, .inr (.inl (vp_updL f k x))))) H1 → va_D A (ws.set q0 (a, .inl (G.2.2 1, n, .inr (.inl (vp_updL f k x))))) → va_S A H0 H1 locs1 → W p l e R s m args below meth c H1 locs1 cells slots Q (F0 m (pc + 1) ls rest)) : W p l e R s m args below meth c H locs cells slots Q (F0 m pc ls (.long x :: .int (nI k) :: .ref a :: rest)) := by
  have h2 := Nat.le_of_ble_eq_true hn
  refine va_last hx hb hK hP hD hS q0 1 ha rfl (vp_in_nI hk h2) hdg ?_
  rw [nI_clamp (by omega)]
  exact kk
/-- a reference out of an array of arrays of long numbers -/
theorem aaldJ (hx : p.tables.exec = Jvm.exec) (hb : c.code = cc) (hK : KK G s) (hP : PP G ws H) (q0 : Nat) {n : Nat} {f : Nat → Option Nat} (ha : ws[q0]? = some (a, .inl (G.2.2 4, n, .inr (.inr (.inr (.inr f)))))) (hn : Nat.ble (n + 1) (2 ^ 31) = true) {k : Nat} (hk : k < n) {b : Nat} (hv : f k = some b) (hdg : decode cc pc = .ok (.aaload, 1))
    (kk : W p l e R s m args below meth c H locs cells slots Q (F0 m (pc + 1) ls (.ref b :: rest))) : W p l e R s m args below meth c H locs cells slots Q (F0 m pc ls (.int (nI k) :: .ref a :: rest)) := by
  have h2 := Nat.le_of_ble_eq_true hn
  have hin := vp_in_nI hk h2
  have hc : (nI k).toNatClampNeg = k := nI_clamp (by omega)
  exact W.aald (v := .ref b) (ty := .array .long) hx hb (hP q0 _ ha) ((hK.2 4 _ rfl).1 n (fun j => va_rf (f j))) rfl (fun q => by cases q) (by show ¬ (nI k < 0 ∨ (arrV _ _ _).slots.size ≤ _); rw [arrV_size]; exact hin) (by show (arrV _ _ _).slots[_]? = _; rw [hc, arrV_read _ _ hk, hv]; rfl) rfl rfl hdg kk
theorem aaldW (hx : p.tables.exec = Jvm.exec) (hb : c.code = cc) (hK : KK G s) (hP : PP G ws H) (q0 : Nat) {n : Nat} {f : Nat → Option Nat} (ha : ws[q0]? = some (a, .inl (G.2.2 3, n, .inr (.inr (.inr (.inr f)))))) (hn : Nat.ble (n + 1) (2 ^ 31) = true) {k : Nat} (hk : k < n) {b : Nat} (hv : f k = some b) (hdg : decode cc pc = .ok (.aaload, 1))
    (kk : W p l e R s m args below meth c H locs cells slots Q (F0 m (pc + 1) ls (.ref b :: rest))) : W p l e R s m args below meth c H locs cells slots Q (F0 m pc ls (.int (nI k) :: .ref a :: rest)) := by
  have h2 := Nat.le_of_ble_eq_true hn
  refine va_aldq hx hb hK hP q0 3 ha rfl (vp_in_nI hk h2) hdg ?_
  rw [nI_clamp (by omega), hv]
  exact kk
/-- a number on the stack, told otherwise -/
theorem topE {x y : Int32} (h : x = y) (k : W p l e R s m args below meth c H locs cells slots Q (F0 m pc ls (.int y :: rest))) : W p l e R s m args below meth c H locs cells slots Q (F0 m pc ls (.int x :: rest)) := by rw [h]; exact k
theorem topLE {x y : Int64} (h : x = y) (k : W p l e R s m args below meth c H locs cells slots Q (F0 m pc ls (.long y :: rest))) : W p l e R s m args below meth c H locs cells slots Q (F0 m pc ls (.long x :: rest)) := by rw [h]; exact k
variable {y : MethodName} {bytes : ByteArray} {maxL nL n index : Nat} {ret : Option FieldType} {wd wd' : List Cond} {rm : Room} {Ts : List Cond} {own C : String} {b : Addr} {As : List Value} {st0 : List Value}
/-- a call that only reads -/
theorem cRi {w : va_W} {post : Int32 → Prop} (S0 : CallFix p m c cc nL s args Ts own) (hM : Met l y wd rm (preR G w (.ref b :: As)) (vp_Si post) 0 0 (fun _ => False)) (cw : CallW R s args own C index y bytes maxL ret wd rm 0 0 n) (hK : KK G s) (hN : NN s) (hP : PP G w H) (q0 ci : Nat) {T : u_T} {N : Nat} {fs : List Value} (he : w[q0]? = some (b, .inr (ci, fs))) (hc : vwCl[ci]? = some (C, T, N)) (hn : As.length = n) (hsz : ls.size = nL) (hst : st0 = As.reverse ++ .ref b :: rest) (hrm : (rest.map fun v => v.category).sum ≤ 8) (hcc : cells ≤ R.cells ∧ slots ≤ R.slots) (hdg : decode cc pc = .ok (.invokevirtual index, 3))
    (kk : ∀ r : Int32, post r → W p l e R s m args below meth c H locs cells slots Q (F0 m (pc + 3) ls (.int r :: rest))) : W p l e R s m args below meth c H locs cells slots Q (F0 m pc ls st0) := by
  subst hst
  exact vp_callSi (va_Run.run (va_runV (rest := rest) S0 hM cw ⟨preR_blind, va_recv hK hP hc he, fun U hU hW => ⟨rfl, by rw [hU]; exact hP, va_K.moved hW.alike hK, hN.warm hW⟩⟩ rfl hn hsz rfl (lv_room hrm) hdg hcc)) kk
theorem cRl {w : va_W} {post : Int64 → Prop} (S0 : CallFix p m c cc nL s args Ts own) (hM : Met l y wd rm (preR G w (.ref b :: As)) (vp_Sl post) 0 0 (fun _ => False)) (cw : CallW R s args own C index y bytes maxL ret wd rm 0 0 n) (hK : KK G s) (hN : NN s) (hP : PP G w H) (q0 ci : Nat) {T : u_T} {N : Nat} {fs : List Value} (he : w[q0]? = some (b, .inr (ci, fs))) (hc : vwCl[ci]? = some (C, T, N)) (hn : As.length = n) (hsz : ls.size = nL) (hst : st0 = As.reverse ++ .ref b :: rest) (hrm : (rest.map fun v => v.category).sum ≤ 8) (hcc : cells ≤ R.cells ∧ slots ≤ R.slots) (hdg : decode cc pc = .ok (.invokevirtual index, 3))
    (kk : ∀ r : Int64, post r → W p l e R s m args below meth c H locs cells slots Q (F0 m (pc + 3) ls (.long r :: rest))) : W p l e R s m args below meth c H locs cells slots Q (F0 m pc ls st0) := by
  subst hst
  exact vp_callSl (va_Run.run (va_runV (rest := rest) S0 hM cw ⟨preR_blind, va_recv hK hP hc he, fun U hU hW => ⟨rfl, by rw [hU]; exact hP, va_K.moved hW.alike hK, hN.warm hW⟩⟩ rfl hn hsz rfl (lv_room hrm) hdg hcc)) kk
/-- a static call: nothing is read but its arguments -/
theorem cSi {post : Int32 → Prop} (S0 : CallFix p m c cc nL s args Ts own) (hM : Met l y wd rm (preS As) (vp_Si post) 0 0 (fun _ => False)) (cw : CallB R s args own index y bytes maxL ret wd rm 0 0 n ∧ (Cond.static y).before args s = true) (hn : As.length = n) (hsz : ls.size = nL) (hst : st0 = As.reverse ++ rest) (hrm : (rest.map fun v => v.category).sum ≤ 8) (hcc : cells ≤ R.cells ∧ slots ≤ R.slots) (hdg : decode cc pc = .ok (.invokestatic index, 3))
    (kk : ∀ r : Int32, post r → W p l e R s m args below meth c H locs cells slots Q (F0 m (pc + 3) ls (.int r :: rest))) : W p l e R s m args below meth c H locs cells slots Q (F0 m pc ls st0) := by
  subst hst
  exact vp_callSi (va_Run.run (va_runS (rest := rest) S0 hM cw ⟨preS_blind, fun U hU hW => ⟨rfl, trivial⟩⟩ rfl hn hsz rfl (lv_room hrm) hdg hcc)) kk
theorem cSNi {host : String} {post : Int32 → Prop} (S0 : CallFix p m c cc nL s args Ts own) (hM : Met l y wd rm (preS As) (vp_Si post) 0 0 (fun _ => False)) (cw : va_CN R s args own index y host bytes maxL ret wd rm 0 0 n ∧ (Cond.static y).before args s = true ∧ True) (hn : As.length = n) (hsz : ls.size = nL) (hst : st0 = As.reverse ++ rest) (hrm : (rest.map fun v => v.category).sum ≤ 8) (hcc : cells ≤ R.cells ∧ slots ≤ R.slots) (hdg : decode cc pc = .ok (.invokestatic index, 3))
    (kk : ∀ r : Int32, post r → W p l e R s m args below meth c H locs cells slots Q (F0 m (pc + 3) ls (.int r :: rest))) : W p l e R s m args below meth c H locs cells slots Q (F0 m pc ls st0) := by
  subst hst
  exact vp_callSi (va_Run.run (va_runSN (rest := rest) S0 hM cw ⟨preS_blind, fun U hU hW => ⟨rfl, trivial⟩⟩ rfl hn hsz rfl (lv_room hrm) hdg hcc)) kk
variable {S : Type} {wa wc : va_W} {w1 wa' : S → va_W}
/-- a call that writes: the callee's cells are places of the caller's world -/
theorem cWi {post : Int32 → S → Prop} (S0 : CallFix p m c cc nL s args Ts own) (hM : Met l y wd rm (preW G wc H.size (.ref b :: As)) (qI G wc H.size w1 post) 0 0 (va_A wc H.size)) (cw : CallW R s args own C index y bytes maxL ret wd rm 0 0 n) (hK : KK G s) (hN : NN s) (hP : PP G wa H) (hD : va_D A wa) (hS : va_S A s.heap H locs) (hA : ∀ q, s.heap.size ≤ q → A q) (isC : List Nat) (hC : isC.map (fun i => wa[i]?) = wc.map some) (hnd : va_nd isC = true) (hPc : isC.filterMap (fun i => wa[i]?) = wc) (hlen : ∀ u, (w1 u).length = wc.length) (hw : ∀ u, ovr wa isC (w1 u) = wa' u) (hf : ∀ u, (wa' u).map Prod.fst = wa.map Prod.fst)
    (q0 ci : Nat) {T : u_T} {N : Nat} {fs : List Value} (he : wc[q0]? = some (b, .inr (ci, fs))) (hc : vwCl[ci]? = some (C, T, N)) (hn : As.length = n) (hsz : ls.size = nL) (hst : st0 = As.reverse ++ .ref b :: rest) (hrm : (rest.map fun v => v.category).sum ≤ 8) (hcc : cells ≤ R.cells ∧ slots ≤ R.slots) (hdg : decode cc pc = .ok (.invokevirtual index, 3))
    (kk : ∀ (r : Int32) (u : S) (H1 : Heap) (locs1 : List Loc), post r u → PP G (wa' u) H1 → va_D A (wa' u) → va_S A s.heap H1 locs1 → W p l e R s m args below meth c H1 locs1 cells slots Q (F0 m (pc + 3) ls (.int r :: rest))) : W p l e R s m args below meth c H locs cells slots Q (F0 m pc ls st0) := by
  subst hst
  have hP1 := hP.sub isC hPc
  have hD1 := hD.sub isC hnd hC
  have hF := va_free hD hS hA isC hC
  refine va_calli (va_runV (rest := rest) S0 hM cw ⟨preW_blind, va_recv hK hP1 hc he, fun U hU hW => ⟨rfl, by rw [hU], by rw [hU]; exact hP1, va_K.moved hW.alike hK, hN.warm hW, hD1.weaken (fun _ _ _ _ => trivial)⟩⟩ rfl hn hsz rfl (lv_room hrm) hdg hcc) hS (fun q _ h => hF q h) hF (fun r u t H1 locs1 ht hvm hp hB hz hk hS1 => ?_)
  rw [ht] at hB
  exact kk r u H1 locs1 hp (jn hP hD isC hC (hlen u) (hw u) hk hB) (hD.fst (hf u)) hS1
theorem cWv {post : S → Prop} (S0 : CallFix p m c cc nL s args Ts own) (hM : Met l y wd rm (preW G wc H.size (.ref b :: As)) (qV G wc H.size w1 post) 0 0 (va_A wc H.size)) (cw : CallW R s args own C index y bytes maxL ret wd rm 0 0 n) (hK : KK G s) (hN : NN s) (hP : PP G wa H) (hD : va_D A wa) (hS : va_S A s.heap H locs) (hA : ∀ q, s.heap.size ≤ q → A q) (isC : List Nat) (hC : isC.map (fun i => wa[i]?) = wc.map some) (hnd : va_nd isC = true) (hPc : isC.filterMap (fun i => wa[i]?) = wc) (hlen : ∀ u, (w1 u).length = wc.length) (hw : ∀ u, ovr wa isC (w1 u) = wa' u) (hf : ∀ u, (wa' u).map Prod.fst = wa.map Prod.fst)
    (q0 ci : Nat) {T : u_T} {N : Nat} {fs : List Value} (he : wc[q0]? = some (b, .inr (ci, fs))) (hc : vwCl[ci]? = some (C, T, N)) (hn : As.length = n) (hsz : ls.size = nL) (hst : st0 = As.reverse ++ .ref b :: rest) (hrm : (rest.map fun v => v.category).sum ≤ 8) (hcc : cells ≤ R.cells ∧ slots ≤ R.slots) (hdg : decode cc pc = .ok (.invokevirtual index, 3))
    (kk : ∀ (u : S) (H1 : Heap) (locs1 : List Loc), post u → PP G (wa' u) H1 → va_D A (wa' u) → va_S A s.heap H1 locs1 → W p l e R s m args below meth c H1 locs1 cells slots Q (F0 m (pc + 3) ls rest)) : W p l e R s m args below meth c H locs cells slots Q (F0 m pc ls st0) := by
  subst hst
  have hP1 := hP.sub isC hPc
  have hD1 := hD.sub isC hnd hC
  have hF := va_free hD hS hA isC hC
  refine va_callv (va_runV (rest := rest) S0 hM cw ⟨preW_blind, va_recv hK hP1 hc he, fun U hU hW => ⟨rfl, by rw [hU], by rw [hU]; exact hP1, va_K.moved hW.alike hK, hN.warm hW, hD1.weaken (fun _ _ _ _ => trivial)⟩⟩ rfl hn hsz rfl (lv_room hrm) hdg hcc) hS (fun q _ h => hF q h) hF (fun u t H1 locs1 ht hvm hp hB hz hk hS1 => ?_)
  rw [ht] at hB
  exact kk u H1 locs1 hp (jn hP hD isC hC (hlen u) (hw u) hk hB) (hD.fst (hf u)) hS1
theorem cWl {post : Int64 → S → Prop} (S0 : CallFix p m c cc nL s args Ts own) (hM : Met l y wd rm (preW G wc H.size (.ref b :: As)) (qL G wc H.size w1 post) 0 0 (va_A wc H.size)) (cw : CallW R s args own C index y bytes maxL ret wd rm 0 0 n) (hK : KK G s) (hN : NN s) (hP : PP G wa H) (hD : va_D A wa) (hS : va_S A s.heap H locs) (hA : ∀ q, s.heap.size ≤ q → A q) (isC : List Nat) (hC : isC.map (fun i => wa[i]?) = wc.map some) (hnd : va_nd isC = true) (hPc : isC.filterMap (fun i => wa[i]?) = wc) (hlen : ∀ u, (w1 u).length = wc.length) (hw : ∀ u, ovr wa isC (w1 u) = wa' u) (hf : ∀ u, (wa' u).map Prod.fst = wa.map Prod.fst)
    (q0 ci : Nat) {T : u_T} {N : Nat} {fs : List Value} (he : wc[q0]? = some (b, .inr (ci, fs))) (hc : vwCl[ci]? = some (C, T, N)) (hn : As.length = n) (hsz : ls.size = nL) (hst : st0 = As.reverse ++ .ref b :: rest) (hrm : (rest.map fun v => v.category).sum ≤ 8) (hcc : cells ≤ R.cells ∧ slots ≤ R.slots) (hdg : decode cc pc = .ok (.invokevirtual index, 3))
    (kk : ∀ (r : Int64) (u : S) (H1 : Heap) (locs1 : List Loc), post r u → PP G (wa' u) H1 → va_D A (wa' u) → va_S A s.heap H1 locs1 → W p l e R s m args below meth c H1 locs1 cells slots Q (F0 m (pc + 3) ls (.long r :: rest))) : W p l e R s m args below meth c H locs cells slots Q (F0 m pc ls st0) := by
  subst hst
  have hP1 := hP.sub isC hPc
  have hD1 := hD.sub isC hnd hC
  have hF := va_free hD hS hA isC hC
  refine va_calll (va_runV (rest := rest) S0 hM cw ⟨preW_blind, va_recv hK hP1 hc he, fun U hU hW => ⟨rfl, by rw [hU], by rw [hU]; exact hP1, va_K.moved hW.alike hK, hN.warm hW, hD1.weaken (fun _ _ _ _ => trivial)⟩⟩ rfl hn hsz rfl (lv_room hrm) hdg hcc) hS (fun q _ h => hF q h) hF (fun r u t H1 locs1 ht hvm hp hB hz hk hS1 => ?_)
  rw [ht] at hB
  exact kk r u H1 locs1 hp (jn hP hD isC hC (hlen u) (hw u) hk hB) (hD.fst (hf u)) hS1
/-- a static call that writes -/
theorem cSWv {w1 wa' : va_W} (S0 : CallFix p m c cc nL s args Ts own) (hM : Met l y wd rm (preW G wc H.size As) (qV G wc H.size (fun _ : Unit => w1) (fun _ => True)) 0 0 (va_A wc H.size)) (cw : CallB R s args own index y bytes maxL ret wd rm 0 0 n ∧ (Cond.static y).before args s = true) (hK : KK G s) (hN : NN s) (hP : PP G wa H) (hD : va_D A wa) (hS : va_S A s.heap H locs) (hA : ∀ q, s.heap.size ≤ q → A q) (isC : List Nat) (hC : isC.map (fun i => wa[i]?) = wc.map some) (hnd : va_nd isC = true) (hPc : isC.filterMap (fun i => wa[i]?) = wc) (hlen : w1.length = wc.length) (hw : ovr wa isC w1 = wa') (hf : wa'.map Prod.fst = wa.map Prod.fst)
    (hn : As.length = n) (hsz : ls.size = nL) (hst : st0 = As.reverse ++ rest) (hrm : (rest.map fun v => v.category).sum ≤ 8) (hcc : cells ≤ R.cells ∧ slots ≤ R.slots) (hdg : decode cc pc = .ok (.invokestatic index, 3))
    (kk : ∀ (H1 : Heap) (locs1 : List Loc), PP G wa' H1 → va_D A wa' → va_S A s.heap H1 locs1 → W p l e R s m args below meth c H1 locs1 cells slots Q (F0 m (pc + 3) ls rest)) : W p l e R s m args below meth c H locs cells slots Q (F0 m pc ls st0) := by
  subst hst
  have hP1 := hP.sub isC hPc
  have hD1 := hD.sub isC hnd hC
  have hF := va_free hD hS hA isC hC
  refine va_callv (va_runS (rest := rest) S0 hM cw ⟨preW_blind, fun U hU hW => ⟨rfl, by rw [hU], by rw [hU]; exact hP1, va_K.moved hW.alike hK, hN.warm hW, hD1.weaken (fun _ _ _ _ => trivial)⟩⟩ rfl hn hsz rfl (lv_room hrm) hdg hcc) hS (fun q _ h => hF q h) hF (fun u t H1 locs1 ht hvm hp hB hz hk hS1 => ?_)
  rw [ht] at hB
  exact kk H1 locs1 (jn hP hD isC hC hlen hw hk hB) (hD.fst hf) hS1
/-- a call on the whole world -/
theorem cXi {post : Int32 → S → Prop} (S0 : CallFix p m c cc nL s args Ts own) (hM : Met l y wd rm (preW G wa H.size (.ref b :: As)) (qI G wa H.size w1 post) 0 0 (va_A wa H.size)) (cw : CallW R s args own C index y bytes maxL ret wd rm 0 0 n) (hK : KK G s) (hN : NN s) (hP : PP G wa H) (hD : va_D A wa) (hS : va_S A s.heap H locs) (hA : ∀ q, s.heap.size ≤ q → A q) (hf : ∀ u, (w1 u).map Prod.fst = wa.map Prod.fst)
    (q0 ci : Nat) {T : u_T} {N : Nat} {fs : List Value} (he : wa[q0]? = some (b, .inr (ci, fs))) (hc : vwCl[ci]? = some (C, T, N)) (hn : As.length = n) (hsz : ls.size = nL) (hst : st0 = As.reverse ++ .ref b :: rest) (hrm : (rest.map fun v => v.category).sum ≤ 8) (hcc : cells ≤ R.cells ∧ slots ≤ R.slots) (hdg : decode cc pc = .ok (.invokevirtual index, 3))
    (kk : ∀ (r : Int32) (u : S) (H1 : Heap) (locs1 : List Loc), post r u → PP G (w1 u) H1 → va_D A (w1 u) → va_S A s.heap H1 locs1 → W p l e R s m args below meth c H1 locs1 cells slots Q (F0 m (pc + 3) ls (.int r :: rest))) : W p l e R s m args below meth c H locs cells slots Q (F0 m pc ls st0) := by
  subst hst
  have hF : ∀ q, va_A wa H.size q → A q := by
    rintro q (⟨k, e, h⟩ | h)
    · exact hD.2 k _ h
    · exact hA q (Nat.le_trans hS.1 h)
  refine va_calli (va_runV (rest := rest) S0 hM cw ⟨preW_blind, va_recv hK hP hc he, fun U hU hW => ⟨rfl, by rw [hU], by rw [hU]; exact hP, va_K.moved hW.alike hK, hN.warm hW, hD.weaken (fun _ _ _ _ => trivial)⟩⟩ rfl hn hsz rfl (lv_room hrm) hdg hcc) hS (fun q _ h => hF q h) hF (fun r u t H1 locs1 ht hvm hp hB hz hk hS1 => ?_)
  rw [ht] at hB
  exact kk r u H1 locs1 hp hB (hD.fst (hf u)) hS1
theorem cXv {post : S → Prop} (S0 : CallFix p m c cc nL s args Ts own) (hM : Met l y wd rm (preW G wa H.size (.ref b :: As)) (qV G wa H.size w1 post) 0 0 (va_A wa H.size)) (cw : CallW R s args own C index y bytes maxL ret wd rm 0 0 n) (hK : KK G s) (hN : NN s) (hP : PP G wa H) (hD : va_D A wa) (hS : va_S A s.heap H locs) (hA : ∀ q, s.heap.size ≤ q → A q) (hf : ∀ u, (w1 u).map Prod.fst = wa.map Prod.fst)
    (q0 ci : Nat) {T : u_T} {N : Nat} {fs : List Value} (he : wa[q0]? = some (b, .inr (ci, fs))) (hc : vwCl[ci]? = some (C, T, N)) (hn : As.length = n) (hsz : ls.size = nL) (hst : st0 = As.reverse ++ .ref b :: rest) (hrm : (rest.map fun v => v.category).sum ≤ 8) (hcc : cells ≤ R.cells ∧ slots ≤ R.slots) (hdg : decode cc pc = .ok (.invokevirtual index, 3))
    (kk : ∀ (u : S) (H1 : Heap) (locs1 : List Loc), post u → PP G (w1 u) H1 → va_D A (w1 u) → va_S A s.heap H1 locs1 → W p l e R s m args below meth c H1 locs1 cells slots Q (F0 m (pc + 3) ls rest)) : W p l e R s m args below meth c H locs cells slots Q (F0 m pc ls st0) := by
  subst hst
  have hF : ∀ q, va_A wa H.size q → A q := by
    rintro q (⟨k, e, h⟩ | h)
    · exact hD.2 k _ h
    · exact hA q (Nat.le_trans hS.1 h)
  refine va_callv (va_runV (rest := rest) S0 hM cw ⟨preW_blind, va_recv hK hP hc he, fun U hU hW => ⟨rfl, by rw [hU], by rw [hU]; exact hP, va_K.moved hW.alike hK, hN.warm hW, hD.weaken (fun _ _ _ _ => trivial)⟩⟩ rfl hn hsz rfl (lv_room hrm) hdg hcc) hS (fun q _ h => hF q h) hF (fun u t H1 locs1 ht hvm hp hB hz hk hS1 => ?_)
  rw [ht] at hB
  exact kk u H1 locs1 hp hB (hD.fst (hf u)) hS1
theorem cXl {post : Int64 → S → Prop} (S0 : CallFix p m c cc nL s args Ts own) (hM : Met l y wd rm (preW G wa H.size (.ref b :: As)) (qL G wa H.size w1 post) 0 0 (va_A wa H.size)) (cw : CallW R s args own C index y bytes maxL ret wd rm 0 0 n) (hK : KK G s) (hN : NN s) (hP : PP G wa H) (hD : va_D A wa) (hS : va_S A s.heap H locs) (hA : ∀ q, s.heap.size ≤ q → A q) (hf : ∀ u, (w1 u).map Prod.fst = wa.map Prod.fst)
    (q0 ci : Nat) {T : u_T} {N : Nat} {fs : List Value} (he : wa[q0]? = some (b, .inr (ci, fs))) (hc : vwCl[ci]? = some (C, T, N)) (hn : As.length = n) (hsz : ls.size = nL) (hst : st0 = As.reverse ++ .ref b :: rest) (hrm : (rest.map fun v => v.category).sum ≤ 8) (hcc : cells ≤ R.cells ∧ slots ≤ R.slots) (hdg : decode cc pc = .ok (.invokevirtual index, 3))
    (kk : ∀ (r : Int64) (u : S) (H1 : Heap) (locs1 : List Loc), post r u → PP G (w1 u) H1 → va_D A (w1 u) → va_S A s.heap H1 locs1 → W p l e R s m args below meth c H1 locs1 cells slots Q (F0 m (pc + 3) ls (.long r :: rest))) : W p l e R s m args below meth c H locs cells slots Q (F0 m pc ls st0) := by
  subst hst
  have hF : ∀ q, va_A wa H.size q → A q := by
    rintro q (⟨k, e, h⟩ | h)
    · exact hD.2 k _ h
    · exact hA q (Nat.le_trans hS.1 h)
  refine va_calll (va_runV (rest := rest) S0 hM cw ⟨preW_blind, va_recv hK hP hc he, fun U hU hW => ⟨rfl, by rw [hU], by rw [hU]; exact hP, va_K.moved hW.alike hK, hN.warm hW, hD.weaken (fun _ _ _ _ => trivial)⟩⟩ rfl hn hsz rfl (lv_room hrm) hdg hcc) hS (fun q _ h => hF q h) hF (fun r u t H1 locs1 ht hvm hp hB hz hk hS1 => ?_)
  rw [ht] at hB
  exact kk r u H1 locs1 hp hB (hD.fst (hf u)) hS1
end BASE
