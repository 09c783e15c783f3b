/-! making objects: where cells lie, arrays of a class that is known, what a constructor takes as given -/
def appA : List Nat → (Nat → Nat) → Nat → Nat
  | [], f, k => f k
  | a :: _, _, 0 => a
  | _ :: l, f, k + 1 => appA l f k
def tkAd : Nat → (Nat → Nat) → (Nat → Nat) → Nat → Nat
  | 0, _, g, k => g k
  | _ + 1, f, _, 0 => f 0
  | n + 1, f, g, k + 1 => tkAd n (fun j => f (j + 1)) g k
def o0 : oS := (fun _ => 0, fun _ _ => 0)
def rd0 : oS := oI o0 5 (-1)
def z0 : oS := oA o0 1 (upd (upd (upd (upd (fun _ => 0) 0 (-1)) 1 (-1)) 2 (-1)) 3 (-1))
def jj0 : Nat → Nat → Int64 := fun _ _ => 0
def x0 : oS := oI o0 8 (-1)
def u0 : oS := oA (oI o0 11 (-1)) 35 (upd (upd (fun _ => 0) 0 (-1)) 1 (-1))
/-- the array class over arrays of a type has been made -/
def va_AOA (ty : FieldType) (U : State) : Prop := (Cond.arrayOver (.array ty)).before #[] U = true
theorem va_AOA.use {ty : FieldType} {A : Array Value} {U : State} (h : va_AOA ty U) : (Cond.arrayOver (.array ty)).before A U = true := h
theorem va_AOA.of {ty : FieldType} {A : Array Value} {U : State} (h : (Cond.arrayOver (.array ty)).before A U = true) : va_AOA ty U := h
theorem va_AOA.spec {ty : FieldType} {U : State} (h : va_AOA ty U) : ∃ (comp c : ClassId) (k : Class) (cm : ClassId), U.vm.findClass (FieldType.array ty).toString = some comp ∧ (U.vm.classes.findIdx? fun (x : Class) => match x.kind with | .array component _ => component == comp | _ => false) = some c ∧ U.vm.classes[c]? = some k ∧ k.kind = .array cm (.array ty) ∧ U.vm.findClass ("[" ++ (FieldType.array ty).toString) = some c := by
  unfold va_AOA Cond.before Cond.holds at h
  simp only [Cond.value, beq_iff_eq] at h
  cases hc : U.vm.findClass (FieldType.array ty).toString with
  | none => rw [hc] at h; simp at h
  | some comp =>
    rw [hc, Option.bind_some] at h
    obtain ⟨c, hi, h⟩ := Option.bind_eq_some_iff.mp h
    obtain ⟨k, hk, h⟩ := Option.map_eq_some_iff.mp h
    cases hkd : k.kind with
    | array cm t =>
      rw [hkd] at h
      simp only [Bool.and_eq_true, decide_eq_true_eq] at h
      obtain ⟨rfl, h2⟩ := h
      exact ⟨comp, c, k, cm, rfl, hi, hk, hkd, h2⟩
    | _ => rw [hkd] at h; simp at h
theorem va_AOA.moved {ty : FieldType} {u U : State} (hvm : u.vm.Alike U.vm) (h : va_AOA ty u) : va_AOA ty U := by
  obtain ⟨comp, c, k, cm, h1, h2, h3, h4, h5⟩ := h.spec
  obtain ⟨k', hk', he⟩ := hvm.2.2 _ _ h3
  have hi : (U.vm.classes.findIdx? fun (x : Class) => match x.kind with | .array component _ => component == comp | _ => false) = some c := by
    have e1 := va_idx_bare U.vm comp
    have e2 := va_idx_bare u.vm comp
    have e3 : U.vm.bare = u.vm.bare := by first | exact hvm.bare_eq | exact hvm.bare_eq.symm
    rw [e3] at e1
    exact e1.symm.trans (e2.trans h2)
  have hkind : k'.kind = .array cm (.array ty) := by rw [he]; exact h4
  have f1 : U.vm.findClass (FieldType.array ty).toString = some comp := by rw [hvm.findClass]; exact h1
  have f2 : U.vm.findClass ("[" ++ (FieldType.array ty).toString) = some c := by rw [hvm.findClass]; exact h5
  unfold va_AOA Cond.before Cond.holds
  simp only [Cond.value]
  rw [f1, Option.bind_some]
  refine (congrArg (fun o : Option Nat => (o.bind (fun c => (U.vm.classes[c]?).map fun (k : Class) => match k.kind with | .array _ t => decide (t = FieldType.array ty) && decide (U.vm.findClass ("[" ++ (FieldType.array ty).toString) = some c) | _ => false) == some true)) hi).trans ?_
  simp [hk', hkind, f2]
def AOs (U : State) : Prop := va_AO "WovenHistory$Weave" U ∧ va_AOA .long U
theorem AOs.moved {u U : State} (hvm : u.vm.Alike U.vm) (h : AOs u) : AOs U := ⟨h.1.moved hvm, h.2.moved hvm⟩
def preI (G : gG) (w : va_W) (sz : Nat) (As : List Value) : Array Value → State → Prop := va_Pc As (fun U => U.heap.size = sz ∧ PP G w U.heap ∧ KK G U ∧ AOs U ∧ va_D (fun _ => True) w)
theorem preI_blind {G : gG} {w : va_W} {sz : Nat} {As : List Value} : FrameBlind (preI G w sz As) := fun a U g mk q => ⟨q.1, q.2.1, q.2.2.1, va_K.moved (u := U) (U := U.calling g mk a) (Vm.Alike.refl U.vm) q.2.2.2.1, AOs.moved (u := U) (U := U.calling g mk a) (Vm.Alike.refl U.vm) q.2.2.2.2.1, q.2.2.2.2.2⟩
/-- what lies beyond an array's length doesn't matter -/
theorem arrq {c : ClassId} {n : Nat} {f g : Nat → Option Nat} (h : ∀ i, i < n → f i = g i) : vp_cell c (n, .inr (.inr (.inr (.inr f)))) = vp_cell c (n, .inr (.inr (.inr (.inr g)))) := by
  rw [vp_cell_q, vp_cell_q]
  unfold arrV
  have e : (Array.ofFn (n := n) fun j => va_rf (f j.val)) = (Array.ofFn (n := n) fun j => va_rf (g j.val)) := by
    congr 1
    funext j
    rw [h j.val j.isLt]
  rw [e]
theorem PP_seti {G : gG} {ws : va_W} {H : Heap} (hP : PP G ws H) (k : Nat) {a n : Nat} {c : ClassId} {f g : Nat → Option Nat} (ha : ws[k]? = some (a, .inl (c, n, .inr (.inr (.inr (.inr f)))))) (h : ∀ i, i < n → f i = g i) : PP G (ws.set k (a, .inl (c, n, .inr (.inr (.inr (.inr g)))))) H := by
  intro j x hx
  by_cases e : j = k
  · subst e
    rw [List.getElem?_set_self (List.getElem?_eq_some_iff.mp ha).1] at hx
    cases hx
    show H[a]? = some (vp_cell c (n, .inr (.inr (.inr (.inr g)))))
    rw [← arrq h]
    exact hP j _ ha
  · rw [List.getElem?_set_ne (Ne.symm e)] at hx
    exact hP j x hx
section MK
variable {p : Program} {l : Launch} {e : Env} {R : Room} {s : State} {m : MethodId} {args : Array Value} {below : List Frame} {meth : Method} {c : Code} {H : Heap} {locs : List Loc} {cells slots : Nat} {Q : State → Prop}
variable {cc : ByteArray} {pc : Nat} {ls : Array Slot} {rest : List Value} {G : gG} {A : Nat → Prop} {a : Nat} {ws : va_W} {H0 : Heap}
theorem newaI (hx : p.tables.exec = Jvm.exec) (hb : c.code = cc) (harr : (Cond.arrayClass .int).before args s = true) (hK : KK G s) (hP : PP G ws H) (hD : va_D A ws) (hS : va_S A H0 H locs) (hA : ∀ q, H0.size ≤ q → A q) {N : Nat} (hN : Nat.ble N 100000 = true) (hcells : cells + 1 ≤ R.cells) (hslots : slots + N ≤ R.slots) (hdg : decode cc pc = .ok (.newarray .int, 2))
    (kk : ∀ (q : Nat) (H1 : Heap), PP G (ws ++ [(q, .inl (G.2.2 0, N, .inl (fun _ => 0)))]) H1 → va_D A (ws ++ [(q, .inl (G.2.2 0, N, .inl (fun _ => 0)))]) → va_S A H0 H1 locs → W p l e R s m args below meth c H1 locs (cells + 1) (slots + N) Q (F0 m (pc + 2) ls (.ref q :: rest))) : W p l e R s m args below meth c H locs cells slots Q (F0 m pc ls (.int (nI N) :: rest)) := by
  have h9 := Nat.le_of_ble_eq_true hN
  refine va_newa (atype := .int) hx hb harr (ty := .int) rfl hK hP hD hS hA (N' := N) (a0 := (N, .inl (fun _ => 0))) (fun _ => rfl) (nI_pos (by omega)) (nI_clamp (by omega)) (by show N * 4 ≤ 536870912; omega) hcells hslots hdg (fun q cA H1 hK1 hP1 hD1 hS1 => ?_)
  have h1 : s.vm.findClass ("[" ++ FieldType.int.toString) = some cA := (hK1.2 5 _ rfl).2
  have h2 : s.vm.findClass ("[" ++ FieldType.int.toString) = some (G.2.2 0) := (hK.2 0 _ rfl).2
  have ec : cA = G.2.2 0 := Option.some.inj (h1.symm.trans h2)
  subst ec
  exact kk q H1 hP1 hD1 hS1
theorem newaJ (hx : p.tables.exec = Jvm.exec) (hb : c.code = cc) (harr : (Cond.arrayClass .long).before args s = true) (hK : KK G s) (hP : PP G ws H) (hD : va_D A ws) (hS : va_S A H0 H locs) (hA : ∀ q, H0.size ≤ q → A q) {N : Nat} (hN : Nat.ble N 100000 = true) (hcells : cells + 1 ≤ R.cells) (hslots : slots + N ≤ R.slots) (hdg : decode cc pc = .ok (.newarray .long, 2))
    (kk : ∀ (q : Nat) (H1 : Heap), PP G (ws ++ [(q, .inl (G.2.2 1, N, .inr (.inl (fun _ => 0))))]) H1 → va_D A (ws ++ [(q, .inl (G.2.2 1, N, .inr (.inl (fun _ => 0))))]) → va_S A H0 H1 locs → W p l e R s m args below meth c H1 locs (cells + 1) (slots + N) Q (F0 m (pc + 2) ls (.ref q :: rest))) : W p l e R s m args below meth c H locs cells slots Q (F0 m pc ls (.int (nI N) :: rest)) := by
  have h9 := Nat.le_of_ble_eq_true hN
  refine va_newa (atype := .long) hx hb harr (ty := .long) rfl hK hP hD hS hA (N' := N) (a0 := (N, .inr (.inl (fun _ => 0)))) (fun _ => rfl) (nI_pos (by omega)) (nI_clamp (by omega)) (by show N * 8 ≤ 536870912; omega) hcells hslots hdg (fun q cA H1 hK1 hP1 hD1 hS1 => ?_)
  have h1 : s.vm.findClass ("[" ++ FieldType.long.toString) = some cA := (hK1.2 5 _ rfl).2
  have h2 : s.vm.findClass ("[" ++ FieldType.long.toString) = some (G.2.2 1) := (hK.2 1 _ rfl).2
  have ec : cA = G.2.2 1 := Option.some.inj (h1.symm.trans h2)
  subst ec
  exact kk q H1 hP1 hD1 hS1
theorem newaZ (hx : p.tables.exec = Jvm.exec) (hb : c.code = cc) (harr : (Cond.arrayClass .boolean).before args s = true) (hK : KK G s) (hP : PP G ws H) (hD : va_D A ws) (hS : va_S A H0 H locs) (hA : ∀ q, H0.size ≤ q → A q) {N : Nat} (hN : Nat.ble N 100000 = true) (hcells : cells + 1 ≤ R.cells) (hslots : slots + N ≤ R.slots) (hdg : decode cc pc = .ok (.newarray .boolean, 2))
    (kk : ∀ (q : Nat) (H1 : Heap), PP G (ws ++ [(q, .inl (G.2.2 2, N, .inl (fun _ => 0)))]) H1 → va_D A (ws ++ [(q, .inl (G.2.2 2, N, .inl (fun _ => 0)))]) → va_S A H0 H1 locs → W p l e R s m args below meth c H1 locs (cells + 1) (slots + N) Q (F0 m (pc + 2) ls (.ref q :: rest))) : W p l e R s m args below meth c H locs cells slots Q (F0 m pc ls (.int (nI N) :: rest)) := by
  have h9 := Nat.le_of_ble_eq_true hN
  refine va_newa (atype := .boolean) hx hb harr (ty := .boolean) rfl hK hP hD hS hA (N' := N) (a0 := (N, .inl (fun _ => 0))) (fun _ => rfl) (nI_pos (by omega)) (nI_clamp (by omega)) (by show N * 1 ≤ 536870912; omega) hcells hslots hdg (fun q cA H1 hK1 hP1 hD1 hS1 => ?_)
  have h1 : s.vm.findClass ("[" ++ FieldType.boolean.toString) = some cA := (hK1.2 5 _ rfl).2
  have h2 : s.vm.findClass ("[" ++ FieldType.boolean.toString) = some (G.2.2 2) := (hK.2 2 _ rfl).2
  have ec : cA = G.2.2 2 := Option.some.inj (h1.symm.trans h2)
  subst ec
  exact kk q H1 hP1 hD1 hS1
theorem newqW (hx : p.tables.exec = Jvm.exec) (hb : c.code = cc) {own : String} {index : Nat} (hown : s.vm.findClass own = some m.cls) (hclink : (Cond.classLink own index "WovenHistory$Weave").before args s = true) (hover : va_AO "WovenHistory$Weave" s) (hK : KK G s) (hP : PP G ws H) (hD : va_D A ws) (hS : va_S A H0 H locs) (hA : ∀ q, H0.size ≤ q → A q) {N : Nat} (hN : Nat.ble N 100000 = true) (hcells : cells + 1 ≤ R.cells) (hslots : slots + N ≤ R.slots) (hdg : decode cc pc = .ok (.anewarray index, 3))
    (kk : ∀ (q : Nat) (H1 : Heap), PP G (ws ++ [(q, .inl (G.2.2 3, N, .inr (.inr (.inr (.inr (fun _ => none))))))]) H1 → va_D A (ws ++ [(q, .inl (G.2.2 3, N, .inr (.inr (.inr (.inr (fun _ => none))))))]) → va_S A H0 H1 locs → W p l e R s m args below meth c H1 locs (cells + 1) (slots + N) Q (F0 m (pc + 3) ls (.ref q :: rest))) : W p l e R s m args below meth c H locs cells slots Q (F0 m pc ls (.int (nI N) :: rest)) := by
  have h9 := Nat.le_of_ble_eq_true hN
  refine va_newq hx hb hown hclink hover hK hP hD hS hA (N' := N) (nI_pos (by omega)) (nI_clamp (by omega)) (by omega) hcells hslots hdg (fun q cA H1 hK1 hP1 hD1 hS1 => ?_)
  obtain ⟨k1, m1, -, -, -, h1⟩ := (hK1.2 5 _ rfl).2
  obtain ⟨k2, m2, -, -, -, h2⟩ := (hK.2 3 _ rfl).2
  have ec : cA = G.2.2 3 := Option.some.inj (h1.symm.trans h2)
  subst ec
  exact kk q H1 hP1 hD1 hS1
theorem aastW (hx : p.tables.exec = Jvm.exec) (hb : c.code = cc) (hK : KK G s) (hP : PP G ws H) (hD : va_D A ws) (hS : va_S A H0 H locs) (q0 qk : Nat) {n v : Nat} {vs : List Value} {f : Nat → Option Nat} (ha : ws[q0]? = some (a, .inl (G.2.2 3, n, .inr (.inr (.inr (.inr f)))))) (hn : Nat.ble (n + 1) (2 ^ 31) = true) (hv : ws[qk]? = some (v, .inr (3, vs))) {k : Nat} (hk : k < n) (hdg : decode cc pc = .ok (.aastore, 1))
    (kk : ∀ (H1 : Heap) (locs1 : List Loc), PP G (ws.set q0 (a, .inl (G.2.2 3, n, .inr (.inr (.inr (.inr (va_up f k (some v)))))))) H1 → va_D A (ws.set q0 (a, .inl (G.2.2 3, n, .inr (.inr (.inr (.inr (va_up f k (some v)))))))) → va_S A H0 H1 locs1 → W p l e R s m args below meth c H1 locs1 cells slots Q (F0 m (pc + 1) ls rest)) : W p l e R s m args below meth c H locs cells slots Q (F0 m pc ls (.ref v :: .int (nI k) :: .ref a :: rest)) := by
  have h2 := Nat.le_of_ble_eq_true hn
  refine va_astq (r := (RX3, TX3, 9)) hx hb hK hP hD hS q0 3 qk 3 ha rfl hv rfl (vp_in_nI hk h2) hdg ?_
  rw [nI_clamp (by omega)]
  exact kk
end MK
/-! new T[n][m] from the narrow library alone: the outer array, then row by row -/
section MQ
variable {p : Program} {l : Launch} {e : Env} {R : Room} {s : State} {m : MethodId} {args : Array Value} {below : List Frame} {meth : Method} {c : Code} {T U : State} {locs : List Loc} {cells slots : Nat}
/-- the outer array when i rows have been laid -/
def mq_o (cA : ClassId) (N h0 : Nat) : Nat → Cell
  | 0 => { cls := cA, slots := Array.replicate N .null, vm := .none }
  | i + 1 => (mq_o cA N h0 i).setSlot i (.ref (h0 + 1 + i))
/-- a row -/
def mq_i (cB : ClassId) (K : Nat) (dv : Value) : Cell := { cls := cB, slots := Array.replicate K dv, vm := .none }
/-- the state when i rows have been laid -/
def mq_f (U : State) (cA cB : ClassId) (N K : Nat) (dv : Value) : Nat → State
  | 0 => U.pushCell (mq_o cA N U.heap.size 0)
  | i + 1 => ((mq_f U cA cB N K dv i).pushCell (mq_i cB K dv)).setCell U.heap.size (mq_o cA N U.heap.size (i + 1))
theorem mq_o_f (cA : ClassId) (N h0 : Nat) : ∀ i : Nat, (mq_o cA N h0 i).cls = cA ∧ (mq_o cA N h0 i).vm = .none ∧ (mq_o cA N h0 i).slots.size = N
  | 0 => ⟨rfl, rfl, by show (Array.replicate N Value.null).size = N; exact Array.size_replicate⟩
  | i + 1 => by
    obtain ⟨h1, h2, h3⟩ := mq_o_f cA N h0 i
    refine ⟨h1, h2, ?_⟩
    show ((mq_o cA N h0 i).setSlot i _).slots.size = N
    simp [Cell.setSlot, h3]
theorem mq_f_f (U : State) (cA cB : ClassId) (N K : Nat) (dv : Value) : ∀ i : Nat, (mq_f U cA cB N K dv i).heap.size = U.heap.size + 1 + i ∧ (mq_f U cA cB N K dv i).heap[U.heap.size]? = some (mq_o cA N U.heap.size i) ∧ (∀ x : Nat, x < U.heap.size → (mq_f U cA cB N K dv i).heap[x]? = U.heap[x]?) ∧ (∀ j : Nat, j < i → (mq_f U cA cB N K dv i).heap[U.heap.size + 1 + j]? = some (mq_i cB K dv)) ∧ (mq_f U cA cB N K dv i).slotsUsed = U.slotsUsed + N + i * K ∧ (mq_f U cA cB N K dv i).vm = U.vm ∧ (mq_f U cA cB N K dv i).topJava? = U.topJava? := by
  intro i
  induction i with
  | zero =>
    have hh : (mq_f U cA cB N K dv 0).heap = U.heap.push (mq_o cA N U.heap.size 0) := rfl
    refine ⟨?_, ?_, ?_, ?_, ?_, rfl, rfl⟩
    · rw [hh, Array.size_push]
    · rw [hh, Array.getElem?_push, if_pos rfl]
    · intro x hx
      rw [hh, Array.getElem?_push, if_neg (by omega)]
    · intro j hj
      omega
    · show U.slotsUsed + (mq_o cA N U.heap.size 0).slots.size = _
      rw [(mq_o_f cA N U.heap.size 0).2.2]
      omega
  | succ i ih =>
    obtain ⟨h1, h2, h3, h4, h5, h6, h7⟩ := ih
    have hh : (mq_f U cA cB N K dv (i + 1)).heap = ((mq_f U cA cB N K dv i).heap.push (mq_i cB K dv)).setIfInBounds U.heap.size (mq_o cA N U.heap.size (i + 1)) := rfl
    refine ⟨?_, ?_, ?_, ?_, ?_, h6, h7⟩
    · rw [hh, Array.size_setIfInBounds, Array.size_push, h1]
      omega
    · rw [hh, Array.getElem?_setIfInBounds, if_pos rfl, if_pos (by rw [Array.size_push, h1]; omega)]
    · intro x hx
      rw [hh, Array.getElem?_setIfInBounds, if_neg (by omega), Array.getElem?_push, if_neg (by omega)]
      exact h3 x hx
    · intro j hj
      rw [hh, Array.getElem?_setIfInBounds, if_neg (by omega), Array.getElem?_push]
      by_cases e9 : j = i
      · subst e9
        rw [if_pos (by omega)]
      · rw [if_neg (by omega)]
        exact h4 j (by omega)
    · show (mq_f U cA cB N K dv i).slotsUsed + (Array.replicate K dv).size = _
      rw [h5, Array.size_replicate, Nat.succ_mul]
      omega
theorem mq_f_top (V : State) (g : JFrame) (cA cB : ClassId) (N K : Nat) (dv : Value) : ∀ i : Nat, mq_f (V.setTop g) cA cB N K dv i = (mq_f V cA cB N K dv i).setTop g
  | 0 => rfl
  | i + 1 => by
    show ((mq_f (V.setTop g) cA cB N K dv i).pushCell _).setCell _ _ = _
    rw [mq_f_top V g cA cB N K dv i]
    rfl
theorem mq_stand (X : Stand p l e R s m args below meth c U locs cells slots) (cA cB : ClassId) (N K : Nat) (dv : Value) : ∀ i : Nat, Stand p l e R s m args below meth c (mq_f U cA cB N K dv i) locs (cells + 1 + i) (slots + N + i * K)
  | 0 => by
    have h := X.pushed (mq_o cA N U.heap.size 0)
    rw [(mq_o_f cA N U.heap.size 0).2.2] at h
    rw [Nat.zero_mul]
    exact h
  | i + 1 => by
    have h := (mq_stand X cA cB N K dv i).pushed (mq_i cB K dv)
    obtain ⟨h1, h2, -⟩ := mq_f_f U cA cB N K dv i
    have hc : ((mq_f U cA cB N K dv i).pushCell (mq_i cB K dv)).heap[U.heap.size]? = some (mq_o cA N U.heap.size i) := by
      show ((mq_f U cA cB N K dv i).heap.push (mq_i cB K dv))[U.heap.size]? = _
      rw [Array.getElem?_push, if_neg (by omega)]
      exact h2
    have h3 := (h.stored hc i (.ref (U.heap.size + 1 + i))).dropFresh (fun x hx => by rw [List.mem_singleton.mp hx]; exact X.heapGrown)
    rw [show (mq_i cB K dv).slots.size = K from Array.size_replicate] at h3
    rw [show slots + N + (i + 1) * K = slots + N + i * K + K by rw [Nat.succ_mul]; omega]
    exact h3
theorem mq_wp1 {E : CtlPost} {d : Bool} {acts : List Action} {cB cm : ClassId} {kB : Class} {ty : FieldType} {k : Int32} {Q : Addr → Pre} (hk : ¬ k < 0) (hkB : U.vm.classes[cB]? = some kB) (hkd : kB.kind = .array cm ty) (hlim : ¬ k.toNatClampNeg > e.platform.arrayLengthLimit) (hheap : ¬ k.toNatClampNeg * componentBytes ty > e.platform.maxHeapBytes) (hcells : U.heap.size < e.platform.maxCells) (hslots : U.slotsUsed + k.toNatClampNeg ≤ e.platform.maxSlots) (hfit : fits ty (defaultValue ty) = true) (hq : ∀ acts', Q U.heap.size d acts' (U.pushCell (mq_i cB k.toNatClampNeg (defaultValue ty)))) : wp (multianewarray.make cB [k]) Q E e d acts U := by
  simp only [multianewarray.make, wp_bind', W.ite, hk, if_false, wp_pure', W.theClass, hkB, Option.some.injEq, exists_eq_left', hkd]
  exact W.newArray_of hkB hkd hlim hheap hcells hslots hfit hq
theorem mq_loop {E : CtlPost} {cA cB cm c2 : ClassId} {kA kB : Class} {ty : FieldType} {k : Int32} {N : Nat} {Q : PUnit → Pre} {f : Nat → PUnit → Sem (ForInStep PUnit)}
    (hf : ∀ (i : Nat) (u : PUnit) (Q' : ForInStep PUnit → Pre) (d : Bool) (acts : List Action) (V : State), wp (multianewarray.make cB [k]) (fun x => wp (Jvm.writeLoc U.heap.size i (.ref x)) (fun _ => Q' (.yield PUnit.unit)) E e) E e d acts V → wp (f i u) Q' E e d acts V)
    (hk : ¬ k < 0) (hkA : U.vm.classes[cA]? = some kA) (hdA : kA.kind = .array c2 (.array ty)) (hkB : U.vm.classes[cB]? = some kB) (hkd : kB.kind = .array cm ty) (hlim : ¬ k.toNatClampNeg > e.platform.arrayLengthLimit) (hheap : ¬ k.toNatClampNeg * componentBytes ty > e.platform.maxHeapBytes) (hcells : U.heap.size + 1 + N ≤ e.platform.maxCells) (hslots : U.slotsUsed + N + N * k.toNatClampNeg ≤ e.platform.maxSlots) (hfit : fits ty (defaultValue ty) = true)
    (hq : ∀ (d : Bool) (acts : List Action), Q PUnit.unit d acts (mq_f U cA cB N k.toNatClampNeg (defaultValue ty) N)) : ∀ (n a : Nat) (d : Bool) (acts : List Action), a + n = N → wp (forIn (List.range' a n) PUnit.unit f) Q E e d acts (mq_f U cA cB N k.toNatClampNeg (defaultValue ty) a)
  | 0, a, d, acts, h => by
    have ha : a = N := h
    subst ha
    simp only [List.range'_zero, List.forIn_nil, wp_pure']
    exact hq d acts
  | n + 1, a, d, acts, h => by
    obtain ⟨h1, h2, -, -, h5, h6, -⟩ := mq_f_f U cA cB N k.toNatClampNeg (defaultValue ty) a
    obtain ⟨o1, o2, o3⟩ := mq_o_f cA N U.heap.size a
    have hmul : (a + 1) * k.toNatClampNeg ≤ N * k.toNatClampNeg := Nat.mul_le_mul_right _ (by omega)
    rw [Nat.succ_mul] at hmul
    rw [List.range'_succ, List.forIn_cons, wp_bind']
    refine hf _ _ _ _ _ _ ?_
    refine mq_wp1 hk (by rw [h6]; exact hkB) hkd hlim hheap (by omega) (by omega) hfit (fun acts' => ?_)
    rw [W.writeLoc]
    have hc : ((mq_f U cA cB N k.toNatClampNeg (defaultValue ty) a).pushCell (mq_i cB k.toNatClampNeg (defaultValue ty))).heap[U.heap.size]? = some (mq_o cA N U.heap.size a) := by
      show ((mq_f U cA cB N k.toNatClampNeg (defaultValue ty) a).heap.push (mq_i cB k.toNatClampNeg (defaultValue ty)))[U.heap.size]? = _
      rw [Array.getElem?_push, if_neg (by omega)]
      exact h2
    refine ⟨_, hc, (by rw [o2]; intro h9; cases h9), (by rw [o3]; omega), ?_, ?_⟩
    · rw [o1, o2]
      show (mq_f U cA cB N k.toNatClampNeg (defaultValue ty) a).fitsSlot cA .none a _ = true
      simp [State.fitsSlot, State.slotType?, h6, hkA, hdA, fits]
    · have hr := mq_loop hf hk hkA hdA hkB hkd hlim hheap hcells hslots hfit hq n (a + 1) true (writeActs ⟨U.heap.size, a⟩ .plain (.ref (mq_f U cA cB N k.toNatClampNeg (defaultValue ty) a).heap.size) acts') (by omega)
      have e9 : (mq_o cA N U.heap.size a).setSlot a (.ref (mq_f U cA cB N k.toNatClampNeg (defaultValue ty) a).heap.size) = mq_o cA N U.heap.size (a + 1) := by rw [h1]; rfl
      rw [e9]
      exact hr
theorem mq_wp2 {E : CtlPost} {d : Bool} {acts : List Action} {cA cB cm : ClassId} {kA kB : Class} {ty : FieldType} {n k : Int32} {Q : Addr → Pre} (hn : ¬ n < 0) (hk : ¬ k < 0) (hkA : U.vm.classes[cA]? = some kA) (hdA : kA.kind = .array cB (.array ty)) (hkB : U.vm.classes[cB]? = some kB) (hkd : kB.kind = .array cm ty) (hlim1 : ¬ n.toNatClampNeg > e.platform.arrayLengthLimit) (hheap1 : ¬ n.toNatClampNeg * 4 > e.platform.maxHeapBytes) (hlim : ¬ k.toNatClampNeg > e.platform.arrayLengthLimit) (hheap : ¬ k.toNatClampNeg * componentBytes ty > e.platform.maxHeapBytes) (hcells : U.heap.size + 1 + n.toNatClampNeg ≤ e.platform.maxCells) (hslots : U.slotsUsed + n.toNatClampNeg + n.toNatClampNeg * k.toNatClampNeg ≤ e.platform.maxSlots) (hfit : fits ty (defaultValue ty) = true)
    (hq : ∀ (d : Bool) (acts : List Action), Q U.heap.size d acts (mq_f U cA cB n.toNatClampNeg k.toNatClampNeg (defaultValue ty) n.toNatClampNeg)) : wp (multianewarray.make cA [n, k]) Q E e d acts U := by
  have hmake : ∀ (Q' : Addr → Pre) (d : Bool) (acts : List Action) (V : State), wp (multianewarray.make cB [k]) Q' E e d acts V → wp (multianewarray.make cB [k]) Q' E e d acts V := fun _ _ _ _ h => h
  rw [multianewarray.make]
  simp only [wp_bind', W.ite, hn, if_false, wp_pure', W.theClass, hkA, Option.some.injEq, exists_eq_left', hdA]
  refine W.newArray_of hkA hdA hlim1 hheap1 (by omega) (by omega) rfl (fun acts' => ?_)
  have hnk : ([k].find? (fun x => decide (x < 0))) = none := by simp [hk]
  have hend : ∀ (d : Bool) (acts : List Action), wp (forIn (List.range' 0 n.toNatClampNeg) PUnit.unit (fun i (_ : PUnit) => (do
      let x ← multianewarray.make cB [k]
      Jvm.writeLoc U.heap.size i (.ref x)
      Pure.pure (ForInStep.yield PUnit.unit) : Sem (ForInStep PUnit)))) (fun _ d acts V => Q U.heap.size d acts V) E e d acts (mq_f U cA cB n.toNatClampNeg k.toNatClampNeg (defaultValue ty) 0) := fun d acts =>
    mq_loop (kA := kA) (kB := kB) (c2 := cB) (cm := cm) (fun i u Q' d acts V h => by simp only [wp_bind', wp_pure']; exact h) hk hkA hdA hkB hkd hlim hheap hcells hslots hfit (fun d acts => hq d acts) n.toNatClampNeg 0 d acts (by omega)
  by_cases h0 : n == 0
  · simp [h0, hk]
    exact hend _ _
  · simp [h0, hk]
    exact hend _ _
theorem mq_old (U : State) (cA cB : ClassId) (N K : Nat) (dv : Value) {a : Nat} (h : a < U.heap.size) (i : Nat) : (mq_f U cA cB N K dv i).heap[a]? = U.heap[a]? := (mq_f_f U cA cB N K dv i).2.2.1 a h
theorem mq_inn (U : State) (cA cB : ClassId) (N K : Nat) (dv : Value) (i j : Nat) (h : j < i) : (mq_f U cA cB N K dv i).heap[U.heap.size + 1 + j]? = some (mq_i cB K dv) := (mq_f_f U cA cB N K dv i).2.2.2.1 j h
theorem mq_sem {E : CtlPost} {d : Bool} {acts : List Action} {cA cB cm : ClassId} {kA kB : Class} {ty : FieldType} {n k : Int32} {Q : Unit → Pre} {g : JFrame} {index : Nat} {vm1 : Vm} {rest : List Value} (hs : T.topJava?.isSome) (hg1 : (Jvm.resolveClass g.method.cls index).Gives e.toSetting T.vm (.ok cA) vm1) (hsz : vm1.classes.size ≤ T.vm.classes.size) (hstack : g.stack = .int k :: .int n :: rest) (hn : ¬ n < 0) (hk : ¬ k < 0) (hkA : vm1.classes[cA]? = some kA) (hdA : kA.kind = .array cB (.array ty)) (hkB : vm1.classes[cB]? = some kB) (hkd : kB.kind = .array cm ty) (hlim1 : ¬ n.toNatClampNeg > e.platform.arrayLengthLimit) (hheap1 : ¬ n.toNatClampNeg * 4 > e.platform.maxHeapBytes) (hlim : ¬ k.toNatClampNeg > e.platform.arrayLengthLimit) (hheap : ¬ k.toNatClampNeg * componentBytes ty > e.platform.maxHeapBytes) (hcells : T.heap.size + 1 + n.toNatClampNeg ≤ e.platform.maxCells) (hslots : T.slotsUsed + n.toNatClampNeg + n.toNatClampNeg * k.toNatClampNeg ≤ e.platform.maxSlots) (hfit : fits ty (defaultValue ty) = true)
    (hq : ∀ acts : List Action, Q () true acts ((mq_f (T.setVm vm1) cA cB n.toNatClampNeg k.toNatClampNeg (defaultValue ty) n.toNatClampNeg).setTop { g with stack := .ref T.heap.size :: rest })) : wp (multianewarray.sem index 2) Q E e d acts (T.setTop g) := by
  have hL : ∀ {Q' : ClassId → Pre} {d' : Bool} {acts' : List Action}, wp (Jvm.resolveClassAt index) Q' E e d' acts' (T.setTop g) ↔ Q' cA d' acts' ((T.setVm vm1).setTop g) := W.resolveClassAt_links (t := T.setTop g) (State.method?_setTop g hs) hg1 hsz
  have hs1 : (T.setVm vm1).topJava?.isSome := hs
  have hp : ∀ {Q' : List Value → Pre} {d' : Bool} {acts' : List Action}, wp (Jvm.popN 2) Q' E e d' acts' ((T.setVm vm1).setTop g) ↔ Q' [.int n, .int k] true acts' ((T.setVm vm1).setTop { g with stack := rest }) := popN_top (args := [.int n, .int k]) (rest := rest) hs1 hstack
  simp only [multianewarray.sem, wp_bind', hL, hp, List.mapM_cons, List.mapM_nil, wp_pure']
  refine mq_wp2 (U := (T.setVm vm1).setTop { g with stack := rest }) hn hk hkA hdA hkB hkd hlim1 hheap1 hlim hheap hcells hslots hfit (fun d acts => ?_)
  rw [mq_f_top]
  simp only [wp_bind', W.mark, W.pushRef]
  refine ⟨{ g with stack := rest }, State.topJava?_setTop' _ (by rw [(mq_f_f (T.setVm vm1) cA cB _ _ _ _).2.2.2.2.2.2]; exact hs1), ?_⟩
  rw [State.setTop_setTop]
  exact hq _
theorem mq_step (X : Stand p l e R s m args below meth c T locs cells slots) (hexec : p.tables.exec = Jvm.exec) {own : String} {index : Nat} {ty : FieldType} (hown : s.vm.findClass own = some m.cls) (hclink : (Cond.classLink own index ("[" ++ (FieldType.array ty).toString)).before args s = true) (hover : va_AOA ty s) (harr : (Cond.arrayClass ty).before args s = true) {g : JFrame} (hg : g.method = m) (hdg : decode c.code g.pc = .ok (.multianewarray index 2, 4)) {n k : Int32} {rest : List Value} (hstack : g.stack = .int k :: .int n :: rest) (hn : ¬ n < 0) (hk : ¬ k < 0) (hb1 : n.toNatClampNeg * 4 ≤ 536870912) (hb2 : k.toNatClampNeg * componentBytes ty ≤ 536870912) (hb3 : k.toNatClampNeg ≤ 536870912) (hdf : fits ty (defaultValue ty) = true) (hdd : (defaultValue ty).isDefault = true) (hcells : cells + (1 + n.toNatClampNeg) ≤ R.cells) (hslots : slots + (n.toNatClampNeg + n.toNatClampNeg * k.toNatClampNeg) ≤ R.slots) :
    ∃ (vm1 : Vm) (cA cB : ClassId), s.vm.findClass ("[" ++ (FieldType.array ty).toString) = some cA ∧ s.vm.findClass (FieldType.array ty).toString = some cB ∧ (∃ (k9 : Class) (cm9 : ClassId), s.vm.classes[cA]? = some k9 ∧ k9.kind = .array cm9 (.array ty)) ∧
      Stand p l e R s m args below meth c (mq_f (T.setVm vm1) cA cB n.toNatClampNeg k.toNatClampNeg (defaultValue ty) n.toNatClampNeg) locs (cells + 1 + n.toNatClampNeg) (slots + n.toNatClampNeg + n.toNatClampNeg * k.toNatClampNeg) ∧
      ∀ target, Steps p.tables e below ((mq_f (T.setVm vm1) cA cB n.toNatClampNeg k.toNatClampNeg (defaultValue ty) n.toNatClampNeg).setTop { g with pc := g.pc + 4, stack := .ref T.heap.size :: rest }) target → Steps p.tables e below (T.setTop g) target := by
  subst hg
  have hpl : e.platform.magicAccessors = ({} : Platform).magicAccessors := by rw [X.admits.platform]
  obtain ⟨cB, cA, kA, cm, hcomp, hidx, hkA, hkindA, hnameA⟩ := hover.spec
  have ecm : cm = cB := by
    obtain ⟨hlt, hp9, -⟩ := Array.findIdx?_eq_some_iff_getElem.mp hidx
    have e1 : s.vm.classes[cA] = kA := by
      rw [Array.getElem?_eq_getElem hlt] at hkA
      exact Option.some.inj hkA
    rw [e1] at hp9
    simpa [hkindA] using hp9
  subst ecm
  obtain ⟨cB2, kB, cm2, hnameB, hkB, hkindB⟩ := Cond.arrayClass_spec harr
  have ecB : cm = cB2 := Option.some.inj (hcomp.symm.trans hnameB)
  subst ecB
  obtain ⟨cc, hfcc, hcl⟩ := Cond.classLink_spec hown hclink e.platform hpl
  have ecc : cA = cc := Option.some.inj (hnameA.symm.trans hfcc)
  subst ecc
  obtain ⟨hg1, hwarm1, hready1⟩ := State.classEntry (e := e) X.warmed hcl
  generalize T.vm.noted g.method.cls index (.cls cA) = vm1 at hg1 hwarm1 hready1
  have hal : s.vm.Alike vm1 := hwarm1.alike
  obtain ⟨kA1, hkA1, heA⟩ := hal.2.2 _ _ hkA
  obtain ⟨kB1, hkB1, heB⟩ := hal.2.2 _ _ hkB
  have hdA1 : kA1.kind = .array cm (.array ty) := by rw [heA]; exact hkindA
  have hdB1 : kB1.kind = .array cm2 ty := by rw [heB]; exact hkindB
  obtain ⟨hr1, hr2⟩ := X.roomAbove hcells hslots
  have hlim1 : ¬ n.toNatClampNeg > e.platform.arrayLengthLimit := by rw [Launch.admits_arrayLengthLimit X.admits]; omega
  have hlim2 : ¬ k.toNatClampNeg > e.platform.arrayLengthLimit := by rw [Launch.admits_arrayLengthLimit X.admits]; omega
  have hheap1 : ¬ n.toNatClampNeg * 4 > e.platform.maxHeapBytes := by rw [Launch.admits_maxHeapBytes X.admits]; omega
  have hheap2 : ¬ k.toNatClampNeg * componentBytes ty > e.platform.maxHeapBytes := by rw [Launch.admits_maxHeapBytes X.admits]; omega
  refine ⟨vm1, cA, cm, hnameA, hcomp, ⟨kA, cm, hkA, hkindA⟩, mq_stand (X.noted hwarm1) cA cm _ _ _ _, fun target hrest => ?_⟩
  refine Steps.instr (c := _) (by simpa using X.here) ?_
  simp [jvm, wpRun, exec, X.here.top, hexec, hdg]
  refine mq_sem X.here.top hg1 (by no_record) hstack hn hk hkA1 hdA1 hkB1 hdB1 hlim1 hheap1 hlim2 hheap2 (by omega) (by omega) hdf (fun acts => ?_)
  intro acts2
  have hs9 : (mq_f (T.setVm vm1) cA cm n.toNatClampNeg k.toNatClampNeg (defaultValue ty) n.toNatClampNeg).topJava?.isSome := by rw [(mq_f_f (T.setVm vm1) cA cm _ _ _ _).2.2.2.2.2.2]; exact X.here.top
  simpa [jvm, hs9] using hrest
end MQ
/-! ===== BEGIN new T[n][m]: the outer array a place, the inner ones among the pooled ===== -/
/-- f, but v at every address of l -/
def vr_up {α : Type} (f : Nat → α) (l : List Nat) (v : α) : Nat → α := fun a => if a ∈ l then v else f a
theorem vr_up_in {α : Type} {f : Nat → α} {l : List Nat} {v : α} {a : Nat} (h : a ∈ l) : vr_up f l v a = v := if_pos h
theorem vr_up_ne {α : Type} {f : Nat → α} {l : List Nat} {v : α} {a : Nat} (h : a ∉ l) : vr_up f l v a = f a := if_neg h
theorem vr_rows {L l : List Nat} {f : Nat → va_E} {e : va_E} (h : ∀ a, a ∈ l → a ∉ L) : va_pl L f ++ l.map (fun a => (a, e)) = va_pl (L ++ l) (vr_up f l e) := by
  unfold va_pl
  rw [List.map_append]
  congr 1
  · apply List.map_congr_left
    intro a ha
    rw [vr_up_ne (fun q => h a q ha)]
  · apply List.map_congr_left
    intro a ha
    rw [vr_up_in ha]
theorem vr_lay {X rows : va_W} {x : Nat × va_E} {pl : va_W} {D : va_G} {cl : List vw_C} {H : Heap} (hP : va_P D cl (((X ++ pl) ++ [x]) ++ rows) H) : va_P D cl ((X ++ [x]) ++ (pl ++ rows)) H := by
  rw [List.append_assoc (X ++ pl)] at hP
  have h := va_P.swap hP
  rw [← List.append_assoc X] at h
  have h2 := va_P.swap h
  rw [List.append_assoc (X ++ [x])] at h2
  exact h2
theorem vr_layD {X rows : va_W} {x : Nat × va_E} {pl : va_W} {A : Nat → Prop} (hD : va_D A (((X ++ pl) ++ [x]) ++ rows)) : va_D A ((X ++ [x]) ++ (pl ++ rows)) := by
  rw [List.append_assoc (X ++ pl)] at hD
  have h := va_D.swap hD
  rw [← List.append_assoc X] at h
  have h2 := va_D.swap h
  rw [List.append_assoc (X ++ [x])] at h2
  exact h2
theorem vr_outer (c : ClassId) (N h0 : Nat) : ∀ i : Nat, mq_o c N h0 i = arrV c N (fun j => va_rf (if j < i then some (h0 + 1 + j) else none))
  | 0 => by
    show ({ cls := c, slots := Array.replicate N .null, vm := .none } : Cell) = _
    rw [arrV_new]
    refine congrArg (arrV c N) (funext fun j => ?_)
    simp [va_rf]
  | i + 1 => by
    show (mq_o c N h0 i).setSlot i (.ref (h0 + 1 + i)) = _
    rw [vr_outer c N h0 i, arrV_store]
    refine congrArg (arrV c N) (funext fun j => ?_)
    by_cases e : j = i
    · subst e
      simp [updV, va_rf]
    · by_cases h : j < i
      · simp [updV, e, h, Nat.lt_succ_of_lt h]
      · simp [updV, e, h, show ¬ j < i + 1 by omega]
section VGM
variable {p : Program} {l : Launch} {e : Env} {R : Room} {s : State} {m : MethodId} {args : Array Value} {below : List Frame} {meth : Method} {c : Code} {H : Heap} {locs : List Loc} {cells slots : Nat} {Q : State → Prop}
variable {cc : ByteArray} {pc : Nat} {ls : Array Slot} {rest : List Value} {D : va_G} {cl : List vw_C} {A : Nat → Prop} {a : Nat} {tys : List (ClassId × FieldType)} {ws : va_W} {H0 : Heap}
theorem va_mna {X : va_W} {L : List Nat} {f : Nat → va_E} {cc : ByteArray} (hexec : p.tables.exec = Jvm.exec) (hb : c.code = cc) {own : String} {index : Nat} {ty : FieldType} {cy : ClassId} (hown : s.vm.findClass own = some m.cls) (hclink : (Cond.classLink own index ("[" ++ (FieldType.array ty).toString)).before args s = true) (hover : va_AOA ty s) (harr : (Cond.arrayClass ty).before args s = true) (hcy : s.vm.findClass (FieldType.array ty).toString = some cy)
    (hK : va_K D cl tys s) (hP : va_P D cl (X ++ va_pl L f) H) (hD : va_D A (X ++ va_pl L f)) (hS : va_S A H0 H locs) (hA : ∀ q, H0.size ≤ q → A q) {n k : Int32} {N' K' : Nat} {z : vp_A} (hn : ¬ n < 0) (hk : ¬ k < 0) (hN : n.toNatClampNeg = N') (hM : k.toNatClampNeg = K')
    (hb1 : N' * 4 ≤ 536870912) (hb2 : K' * componentBytes ty ≤ 536870912) (hb3 : K' ≤ 536870912) (hdf : fits ty (defaultValue ty) = true) (hdd : (defaultValue ty).isDefault = true) (hcells : cells + (1 + N') ≤ R.cells) (hslots : slots + (N' + N' * K') ≤ R.slots) (hz : ∀ c : ClassId, mq_i c K' (defaultValue ty) = vp_cell c z) (hdg : decode cc pc = .ok (.multianewarray index 2, 4))
    (kk : ∀ (q : Nat) (r : Nat → Nat) (cA : ClassId) (H1 : Heap), (∀ i j : Nat, i < N' → j < N' → r i = r j → i = j) → (∀ i : Nat, i < N' → r i ∉ L) → va_K D cl (tys ++ [(cA, .array ty)]) s →
      va_P D cl ((X ++ [(q, .inl (cA, N', .inr (.inr (.inr (.inr (fun i => if i < N' then some (r i) else none))))))]) ++ va_pl (L ++ (List.range N').map r) (vr_up f ((List.range N').map r) (.inl (cy, z)))) H1 → va_D A ((X ++ [(q, .inl (cA, N', .inr (.inr (.inr (.inr (fun i => if i < N' then some (r i) else none))))))]) ++ va_pl (L ++ (List.range N').map r) (vr_up f ((List.range N').map r) (.inl (cy, z)))) → va_S A H0 H1 locs →
      W p l e R s m args below meth c H1 locs (cells + 1 + N') (slots + N' + N' * K') Q (F0 m (pc + 4) ls (.ref q :: rest))) : W p l e R s m args below meth c H locs cells slots Q (F0 m pc ls (.int k :: .int n :: rest)) := by
  subst hN
  subst hM
  intro T hT Xs
  obtain ⟨vm₁, cA, comp, fA, fC, hO, X', step⟩ := mq_step Xs hexec hown hclink hover harr (g := F0 m pc ls (.int k :: .int n :: rest)) rfl (by rw [hb]; exact hdg) rfl hn hk hb1 hb2 hb3 hdf hdd hcells hslots
  have ec : some cy = some comp := hcy.symm.trans fC
  cases ec
  generalize hF : mq_f (T.setVm vm₁) cA cy n.toNatClampNeg k.toNatClampNeg (defaultValue ty) n.toNatClampNeg = F at X' step
  have hTh : (T.setVm vm₁).heap = H := hT
  obtain ⟨f1, f2, -, -⟩ := mq_f_f (T.setVm vm₁) cA cy n.toNatClampNeg k.toNatClampNeg (defaultValue ty) n.toNatClampNeg
  rw [hF, hTh] at f1 f2
  have hold : ∀ x : Nat, x < H.size → F.heap[x]? = H[x]? := fun x hx => by
    have := mq_old (T.setVm vm₁) cA cy n.toNatClampNeg k.toNatClampNeg (defaultValue ty) (a := x) (by rw [hTh]; exact hx) n.toNatClampNeg
    rw [hF, hTh] at this
    exact this
  have hrow : ∀ j : Nat, j < n.toNatClampNeg → F.heap[H.size + 1 + j]? = some (vp_cell cy z) := fun j hj => by
    have := mq_inn (T.setVm vm₁) cA cy n.toNatClampNeg k.toNatClampNeg (defaultValue ty) n.toNatClampNeg j hj
    rw [hF, hTh, hz] at this
    exact this
  have hout : mq_o cA n.toNatClampNeg H.size n.toNatClampNeg = vp_cell cA (n.toNatClampNeg, .inr (.inr (.inr (.inr (fun i => if i < n.toNatClampNeg then some (H.size + 1 + i) else none))))) := by
    rw [vp_cell_q]
    exact vr_outer cA n.toNatClampNeg H.size n.toNatClampNeg
  rw [hout] at f2
  have hlt : ∀ a, a ∈ L → a < H.size := fun a ha => by
    obtain ⟨k9, hk9⟩ := va_pl_get (X := X) (f := f) ha
    exact (hP k9 _ hk9).lt
  have hnl : ∀ i : Nat, i < n.toNatClampNeg → H.size + 1 + i ∉ L := fun i _ h => by
    have := hlt _ h
    omega
  have hnm : ∀ a, a ∈ (List.range n.toNatClampNeg).map (fun i => H.size + 1 + i) → a ∉ L := fun a ha h => by
    obtain ⟨i, -, rfl⟩ := List.mem_map.mp ha
    have := hlt _ h
    omega
  have hP0 : va_P D cl (X ++ va_pl L f) F.heap := hP.kept (fun k9 x hx => hold x.1 ((hP k9 x hx).lt))
  have hP1 : va_P D cl ((X ++ va_pl L f) ++ [(H.size, .inl (cA, n.toNatClampNeg, .inr (.inr (.inr (.inr (fun i => if i < n.toNatClampNeg then some (H.size + 1 + i) else none))))))]) F.heap := hP0.app (fun k9 x hx => by
    have h0 : k9 < 1 := (List.getElem?_eq_some_iff.mp hx).1
    rw [show k9 = 0 by omega] at hx
    cases hx
    exact f2)
  have hP2 : va_P D cl (((X ++ va_pl L f) ++ [(H.size, .inl (cA, n.toNatClampNeg, .inr (.inr (.inr (.inr (fun i => if i < n.toNatClampNeg then some (H.size + 1 + i) else none))))))]) ++ ((List.range n.toNatClampNeg).map (fun i => H.size + 1 + i)).map (fun a => (a, .inl (cy, z)))) F.heap := hP1.app (fun k9 x hx => by
    obtain ⟨a, ha, rfl⟩ := List.mem_map.mp (List.mem_of_getElem? hx)
    obtain ⟨i, hi, rfl⟩ := List.mem_map.mp ha
    exact hrow i (List.mem_range.mp hi))
  have hD2 : va_D A (((X ++ va_pl L f) ++ [(H.size, .inl (cA, n.toNatClampNeg, .inr (.inr (.inr (.inr (fun i => if i < n.toNatClampNeg then some (H.size + 1 + i) else none))))))]) ++ ((List.range n.toNatClampNeg).map (fun i => H.size + 1 + i)).map (fun a => (a, .inl (cy, z)))) := by
    have hD1 := hD.push (e := .inl (cA, n.toNatClampNeg, .inr (.inr (.inr (.inr (fun i => if i < n.toNatClampNeg then some (H.size + 1 + i) else none)))))) hP rfl (hA _ hS.1)
    generalize hW1 : (X ++ va_pl L f) ++ [(H.size, .inl (cA, n.toNatClampNeg, .inr (.inr (.inr (.inr (fun i => if i < n.toNatClampNeg then some (H.size + 1 + i) else none))))))] = W1 at hD1 hP1 ⊢
    have hle : ∀ (k9 : Nat) (x : Nat × va_E), W1[k9]? = some x → x.1 ≤ H.size := fun k9 x hx => by
      rw [← hW1] at hx
      by_cases hl : k9 < (X ++ va_pl L f).length
      · rw [List.getElem?_append_left hl] at hx
        exact Nat.le_of_lt ((hP k9 x hx).lt)
      · rw [List.getElem?_append_right (by omega)] at hx
        have h0 : k9 - (X ++ va_pl L f).length < 1 := (List.getElem?_eq_some_iff.mp hx).1
        rw [show k9 - (X ++ va_pl L f).length = 0 by omega] at hx
        cases hx
        exact Nat.le_refl _
    have hr : ∀ (k9 : Nat) (x : Nat × va_E), (((List.range n.toNatClampNeg).map (fun i => H.size + 1 + i)).map (fun a => ((a, .inl (cy, z)) : Nat × va_E)))[k9]? = some x → x.1 = H.size + 1 + k9 := fun k9 x hx => by
      rw [List.getElem?_map, List.getElem?_map] at hx
      by_cases h9 : k9 < n.toNatClampNeg
      · rw [List.getElem?_range h9] at hx
        cases hx
        rfl
      · have hn0 : (List.range n.toNatClampNeg)[k9]? = none := List.getElem?_eq_none (by rw [List.length_range]; omega)
        rw [hn0] at hx
        cases hx
    refine ⟨fun i j x y hi hj hxy => ?_, fun k9 x hx => ?_⟩
    · by_cases h1 : i < W1.length <;> by_cases h2 : j < W1.length
      · rw [List.getElem?_append_left h1] at hi
        rw [List.getElem?_append_left h2] at hj
        exact hD1.1 i j x y hi hj hxy
      · rw [List.getElem?_append_left h1] at hi
        rw [List.getElem?_append_right (by omega)] at hj
        have := hle _ _ hi
        have := hr _ _ hj
        omega
      · rw [List.getElem?_append_right (by omega)] at hi
        rw [List.getElem?_append_left h2] at hj
        have := hle _ _ hj
        have := hr _ _ hi
        omega
      · rw [List.getElem?_append_right (by omega)] at hi hj
        have := hr _ _ hi
        have := hr _ _ hj
        omega
    · by_cases h1 : k9 < W1.length
      · rw [List.getElem?_append_left h1] at hx
        exact hD1.2 k9 x hx
      · rw [List.getElem?_append_right (by omega)] at hx
        have := hr _ _ hx
        exact hA _ (by have := hS.1; omega)
  have hAr : ArrOfT s cA (.array ty) := fun N9 z9 => by
    obtain ⟨k9, cm9, hk9, hkk9⟩ := hO
    exact ⟨(fun q hq => by cases hq), k9, hk9, cm9, hkk9⟩
  have hK2 : va_K D cl (tys ++ [(cA, .array ty)]) s := ⟨hK.1, fun k9 x hx => by
    by_cases hl : k9 < tys.length
    · rw [List.getElem?_append_left hl] at hx
      exact hK.2 k9 x hx
    · rw [List.getElem?_append_right (by omega)] at hx
      have h0 : k9 - tys.length < 1 := (List.getElem?_eq_some_iff.mp hx).1
      rw [show k9 - tys.length = 0 by omega] at hx
      cases hx
      exact ⟨hAr, fA⟩⟩
  obtain ⟨t, a1, b1⟩ := kk H.size (fun i => H.size + 1 + i) cA F.heap (fun i j _ _ h => by have h9 : H.size + 1 + i = H.size + 1 + j := h; omega) hnl hK2 (by rw [← vr_rows hnm]; exact vr_lay hP2) (by rw [← vr_rows hnm]; exact vr_layD hD2) ⟨by rw [f1]; have := hS.1; omega, fun x h1 h2 => (hold x (Nat.lt_of_lt_of_le h1 hS.1)).trans (hS.2.1 x h1 h2), hS.2.2⟩ F rfl X'
  refine ⟨t, step t ?_, b1⟩
  have e : T.heap.size = H.size := by rw [hT]
  rw [e]
  exact a1
end VGM
/-! ===== END ===== -/
section MNA
variable {p : Program} {l : Launch} {e : Env} {R : Room} {s : State} {m : MethodId} {args : Array Value} {below : List Frame} {meth : Method} {c : Code} {H : Heap} {locs : List Loc} {cells slots : Nat} {Q : State → Prop}
variable {cc : ByteArray} {pc : Nat} {ls : Array Slot} {rest : List Value} {G : gG} {A : Nat → Prop} {ws : va_W} {H0 : Heap}
/-- four rows of forty long numbers -/
theorem mnaJ (hx : p.tables.exec = Jvm.exec) (hb : c.code = cc) {own : String} {index : Nat} (hown : s.vm.findClass own = some m.cls) (hclink : (Cond.classLink own index "[[J").before args s = true) (hover : va_AOA .long s) (harr : (Cond.arrayClass .long).before args s = true) (hK : KK G s) (hP : PP G ws H) (hD : va_D A ws) (hS : va_S A H0 H locs) (hA : ∀ q, H0.size ≤ q → A q) (hcells : cells + (1 + 4) ≤ R.cells) (hslots : slots + (4 + 4 * 40) ≤ R.slots) (hdg : decode cc pc = .ok (.multianewarray index 2, 4))
    (kk : ∀ (q : Nat) (r : Nat → Nat) (H1 : Heap), PP G (ws ++ [(q, .inl (G.2.2 4, 4, .inr (.inr (.inr (.inr (fun i => if i < 4 then some (r i) else none)))))), (r 0, .inl (G.2.2 1, 40, .inr (.inl (fun _ => 0)))), (r 1, .inl (G.2.2 1, 40, .inr (.inl (fun _ => 0)))), (r 2, .inl (G.2.2 1, 40, .inr (.inl (fun _ => 0)))), (r 3, .inl (G.2.2 1, 40, .inr (.inl (fun _ => 0))))]) H1 →
      va_D A (ws ++ [(q, .inl (G.2.2 4, 4, .inr (.inr (.inr (.inr (fun i => if i < 4 then some (r i) else none)))))), (r 0, .inl (G.2.2 1, 40, .inr (.inl (fun _ => 0)))), (r 1, .inl (G.2.2 1, 40, .inr (.inl (fun _ => 0)))), (r 2, .inl (G.2.2 1, 40, .inr (.inl (fun _ => 0)))), (r 3, .inl (G.2.2 1, 40, .inr (.inl (fun _ => 0))))]) → va_S A H0 H1 locs →
      W p l e R s m args below meth c H1 locs (cells + 1 + 4) (slots + 4 + 4 * 40) Q (F0 m (pc + 4) ls (.ref q :: rest))) : W p l e R s m args below meth c H locs cells slots Q (F0 m pc ls (.int (nI 40) :: .int (nI 4) :: rest)) := by
  have hcy : s.vm.findClass (FieldType.array .long).toString = some (G.2.2 1) := (hK.2 1 _ rfl).2
  have hP0 : va_P (gD G) vwCl (ws ++ va_pl [] (fun _ => .inr (0, []))) H := by show va_P (gD G) vwCl (ws ++ []) H; rw [List.append_nil]; exact hP
  have hD0 : va_D A (ws ++ va_pl [] (fun _ => .inr (0, []))) := by show va_D A (ws ++ []); rw [List.append_nil]; exact hD
  refine va_mna (ty := .long) (cy := G.2.2 1) (z := (40, .inr (.inl (fun _ => 0)))) (N' := 4) (K' := 40) hx hb hown hclink hover harr hcy hK hP0 hD0 hS hA (nI_pos (by omega)) (nI_pos (by omega)) (nI_clamp (by omega)) (nI_clamp (by omega)) (by decide) (by decide) (by decide) rfl rfl hcells hslots (fun c9 => ?_) hdg (fun q r cA H1 hinj hnl hK1 hP1 hD1 hS1 => ?_)
  · show ({ cls := c9, slots := Array.replicate 40 (Value.long 0), vm := .none } : Cell) = _
    rw [arrV_new]
    rfl
  · have h1 : s.vm.findClass ("[" ++ (FieldType.array .long).toString) = some cA := (hK1.2 5 _ rfl).2
    have h2 : s.vm.findClass ("[" ++ (FieldType.array .long).toString) = some (G.2.2 4) := (hK.2 4 _ rfl).2
    have ec : cA = G.2.2 4 := Option.some.inj (h1.symm.trans h2)
    subst ec
    have hpl : va_pl ([] ++ (List.range 4).map r) (vr_up (fun _ => .inr (0, [])) ((List.range 4).map r) (.inl (G.2.2 1, 40, .inr (.inl (fun _ => 0))))) = [(r 0, .inl (G.2.2 1, 40, .inr (.inl (fun _ => 0)))), (r 1, .inl (G.2.2 1, 40, .inr (.inl (fun _ => 0)))), (r 2, .inl (G.2.2 1, 40, .inr (.inl (fun _ => 0)))), (r 3, .inl (G.2.2 1, 40, .inr (.inl (fun _ => 0))))] := by
      show [(r 0, vr_up _ [r 0, r 1, r 2, r 3] _ (r 0)), (r 1, vr_up _ [r 0, r 1, r 2, r 3] _ (r 1)), (r 2, vr_up _ [r 0, r 1, r 2, r 3] _ (r 2)), (r 3, vr_up _ [r 0, r 1, r 2, r 3] _ (r 3))] = _
      rw [vr_up_in (by simp), vr_up_in (by simp), vr_up_in (by simp), vr_up_in (by simp)]
    rw [hpl, List.append_assoc] at hP1 hD1
    exact kk q r H1 hP1 hD1 hS1
end MNA
