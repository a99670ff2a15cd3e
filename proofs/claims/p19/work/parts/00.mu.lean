section MU
variable {e : Env} {d : Bool} {acts : List Action} {E : CtlPost} {s : State}
def mu_row (T : State) (a : Nat) (C : Cell) (i : Nat) (I : Cell) : State := (T.pushCell I).setCell a (C.setSlot i (.ref T.heap.size))
def mu_in (c : ClassId) : Cell := { cls := c, slots := Array.replicate 24 (.int 0), vm := .none }
def mu_out (c : ClassId) : Cell := { cls := c, slots := Array.replicate 3 .null, vm := .none }
def mu_all (T : State) (cA comp : ClassId) : State :=
  let h := T.heap.size
  let O0 := mu_out cA
  let O1 := O0.setSlot 0 (.ref (h + 1))
  let O2 := O1.setSlot 1 (.ref (h + 2))
  let I := mu_in comp
  mu_row (mu_row (mu_row (T.pushCell O0) h O0 0 I) h O1 1 I) h O2 2 I
theorem mu_size (T : State) (a : Nat) (C : Cell) (i : Nat) (I : Cell) : (mu_row T a C i I).heap.size = T.heap.size + 1 := by
  simp [mu_row, State.setCell, State.pushCell]
theorem mu_at (T : State) {a : Nat} (C : Cell) (i : Nat) (I : Cell) (h : a < T.heap.size) : (mu_row T a C i I).heap[a]? = some (C.setSlot i (.ref T.heap.size)) := by
  have h' : a < (T.heap.push I).size := by simp; omega
  show ((T.heap.push I).setIfInBounds a _)[a]? = _
  rw [Array.getElem?_setIfInBounds_self_of_lt h']
theorem mu_new (T : State) {a : Nat} (C : Cell) (i : Nat) (I : Cell) (h : a < T.heap.size) : (mu_row T a C i I).heap[T.heap.size]? = some I := by
  show ((T.heap.push I).setIfInBounds a _)[T.heap.size]? = _
  rw [Array.getElem?_setIfInBounds_ne (by omega)]
  simp
theorem mu_old (T : State) {a x : Nat} (C : Cell) (i : Nat) (I : Cell) (h : x < T.heap.size) (hne : a ≠ x) : (mu_row T a C i I).heap[x]? = T.heap[x]? := by
  show ((T.heap.push I).setIfInBounds a _)[x]? = _
  rw [Array.getElem?_setIfInBounds_ne hne, Array.getElem?_push_lt h, Array.getElem?_eq_getElem h]
theorem mu_facts (T : State) (cA comp : ClassId) : (mu_all T cA comp).heap.size = T.heap.size + 4
    ∧ (mu_all T cA comp).heap[T.heap.size]? = some ((((mu_out cA).setSlot 0 (.ref (T.heap.size + 1))).setSlot 1 (.ref (T.heap.size + 2))).setSlot 2 (.ref (T.heap.size + 3)))
    ∧ (∀ j, j < 3 → (mu_all T cA comp).heap[T.heap.size + 1 + j]? = some (mu_in comp))
    ∧ (∀ x, x < T.heap.size → (mu_all T cA comp).heap[x]? = T.heap[x]?) := by
  have s0 : (T.pushCell (mu_out cA)).heap.size = T.heap.size + 1 := by simp [State.pushCell]
  have o0 : ∀ x, x < T.heap.size → (T.pushCell (mu_out cA)).heap[x]? = T.heap[x]? := fun x hx => by
    show (T.heap.push _)[x]? = _
    rw [Array.getElem?_push_lt hx, Array.getElem?_eq_getElem hx]
  unfold mu_all
  dsimp only
  generalize T.pushCell (mu_out cA) = T0 at s0 o0
  have s1 := mu_size T0 T.heap.size (mu_out cA) 0 (mu_in comp)
  have n1 := mu_new T0 (mu_out cA) 0 (mu_in comp) (a := T.heap.size) (by omega)
  have o1 := fun x hx hne => mu_old T0 (x := x) (mu_out cA) 0 (mu_in comp) (a := T.heap.size) hx hne
  generalize mu_row T0 T.heap.size (mu_out cA) 0 (mu_in comp) = T1 at s1 n1 o1
  have s2 := mu_size T1 T.heap.size ((mu_out cA).setSlot 0 (.ref (T.heap.size + 1))) 1 (mu_in comp)
  have n2 := mu_new T1 ((mu_out cA).setSlot 0 (.ref (T.heap.size + 1))) 1 (mu_in comp) (a := T.heap.size) (by omega)
  have o2 := fun x hx hne => mu_old T1 (x := x) ((mu_out cA).setSlot 0 (.ref (T.heap.size + 1))) 1 (mu_in comp) (a := T.heap.size) hx hne
  generalize mu_row T1 T.heap.size ((mu_out cA).setSlot 0 (.ref (T.heap.size + 1))) 1 (mu_in comp) = T2 at s2 n2 o2
  have s3 := mu_size T2 T.heap.size (((mu_out cA).setSlot 0 (.ref (T.heap.size + 1))).setSlot 1 (.ref (T.heap.size + 2))) 2 (mu_in comp)
  have n3 := mu_new T2 (((mu_out cA).setSlot 0 (.ref (T.heap.size + 1))).setSlot 1 (.ref (T.heap.size + 2))) 2 (mu_in comp) (a := T.heap.size) (by omega)
  have a3 := mu_at T2 (((mu_out cA).setSlot 0 (.ref (T.heap.size + 1))).setSlot 1 (.ref (T.heap.size + 2))) 2 (mu_in comp) (a := T.heap.size) (by omega)
  have o3 := fun x hx hne => mu_old T2 (x := x) (((mu_out cA).setSlot 0 (.ref (T.heap.size + 1))).setSlot 1 (.ref (T.heap.size + 2))) 2 (mu_in comp) (a := T.heap.size) hx hne
  have e2 : T2.heap.size = T.heap.size + 3 := by omega
  have e1 : T1.heap.size = T.heap.size + 2 := by omega
  rw [e2] at a3 n3
  rw [e1] at n2
  rw [s0] at n1
  refine ⟨by omega, a3, fun j hj => ?_, fun x hx => ?_⟩
  · match j, hj with
    | 0, _ => rw [show T.heap.size + 1 + 0 = T.heap.size + 1 from rfl, o3 _ (by omega) (by omega), o2 _ (by omega) (by omega), n1]
    | 1, _ => rw [show T.heap.size + 1 + 1 = T.heap.size + 2 from rfl, o3 _ (by omega) (by omega), n2]
    | 2, _ => rw [show T.heap.size + 1 + 2 = T.heap.size + 3 from rfl, n3]
  · rw [o3 _ (by omega) (by omega), o2 _ (by omega) (by omega), o1 _ (by omega) (by omega), o0 _ hx]
end MU
section MU2
theorem mu_used (T : State) (I : Cell) : (T.pushCell I).slotsUsed = T.slotsUsed + I.slots.size := by
  simp
theorem mu_rowUsed (T : State) {a : Nat} (C : Cell) (i : Nat) (I : Cell) (hC : T.heap[a]? = some C) : (mu_row T a C i I).slotsUsed = T.slotsUsed + I.slots.size := by
  rw [← mu_used]
  unfold mu_row
  simp
end MU2
section MV
variable {e : Env} {d : Bool} {acts : List Action} {E : CtlPost} {s : State}
theorem mv_in {Q : Nat → Pre} {comp cc : ClassId} {kc : Class} (hk : s.vm.classes[comp]? = some kc) (hkind : kc.kind = .array cc .int) (hl : ¬ 24 > e.platform.arrayLengthLimit) (hh : ¬ 24 * componentBytes .int > e.platform.maxHeapBytes)
    (hc : s.heap.size < e.platform.maxCells) (hs : s.slotsUsed + 24 ≤ e.platform.maxSlots) (hq : ∀ acts' d', Q s.heap.size d' acts' (s.pushCell (mu_in comp))) : wp (Op.multianewarray.make comp [24]) Q E e d acts s := by
  have h0 : ¬ ((24 : Int32) < 0) := by decide
  have h24 : (24 : Int32).toNatClampNeg = 24 := by decide
  simp only [Op.multianewarray.make, wp_bind', W.ite, h0, if_false, wp_pure', W.theClass, hk, Option.some.injEq, exists_eq_left', hkind, h24]
  exact W.newArray_of hk hkind hl hh hc hs rfl (fun a => hq a _)
theorem mv_row {Q : ForInStep PUnit → Pre} {a i : Nat} {C : Cell} {kA : Class} {comp cc : ClassId} {kc : Class} (hk : s.vm.classes[comp]? = some kc) (hkind : kc.kind = .array cc .int) (hl : ¬ 24 > e.platform.arrayLengthLimit) (hh : ¬ 24 * componentBytes .int > e.platform.maxHeapBytes)
    (hc : s.heap.size < e.platform.maxCells) (hs : s.slotsUsed + 24 ≤ e.platform.maxSlots) (hC : s.heap[a]? = some C) (hv : C.vm = .none) (hi : i < C.slots.size) (hkA : s.vm.classes[C.cls]? = some kA) (hkindA : kA.kind = .array comp (.array .int))
    (hq : ∀ acts', Q (.yield PUnit.unit) true acts' (mu_row s a C i (mu_in comp))) : wp (Op.multianewarray.make comp [24]) (fun x => wp (writeLoc a i (.ref x) >>= fun _ => Pure.pure (ForInStep.yield PUnit.unit)) Q E e) E e d acts s := by
  have hlt : a < s.heap.size := (Array.getElem?_eq_some_iff.mp hC).1
  refine mv_in hk hkind hl hh hc hs (fun acts' d' => ?_)
  rw [wp_bind']
  refine (W.writeLoc _ _ _ _).mpr ⟨C, ?_, by rw [hv]; simp, hi, ?_, hq _⟩
  · show (s.heap.push _)[a]? = _
    rw [Array.getElem?_push_lt hlt, ← Array.getElem?_eq_getElem hlt, hC]
  · rw [hv]
    simp [State.fitsSlot, State.slotType?, State.pushCell, hkA, hkindA]
    rfl
end MV
section MW
variable {e : Env} {d : Bool} {acts : List Action} {E : CtlPost} {s : State}
theorem mw_make {Q : Nat → Pre} {cA comp cc : ClassId} {kA kc : Class} (hkA : s.vm.classes[cA]? = some kA) (hkindA : kA.kind = .array comp (.array .int)) (hk : s.vm.classes[comp]? = some kc) (hkind : kc.kind = .array cc .int)
    (hl : ¬ 24 > e.platform.arrayLengthLimit) (hh : ¬ 24 * componentBytes .int > e.platform.maxHeapBytes) (hl3 : ¬ 3 > e.platform.arrayLengthLimit) (hh3 : ¬ 3 * componentBytes (.array .int) > e.platform.maxHeapBytes)
    (hc : s.heap.size + 4 ≤ e.platform.maxCells) (hs : s.slotsUsed + 75 ≤ e.platform.maxSlots) (hq : ∀ acts', Q s.heap.size true acts' (mu_all s cA comp)) : wp (Op.multianewarray.make cA [3, 24]) Q E e d acts s := by
  have h0 : ¬ ((3 : Int32) < 0) := by decide
  have h00 : ((3 : Int32) == 0) = false := by decide
  have h3 : (3 : Int32).toNatClampNeg = 3 := by decide
  rw [Op.multianewarray.make]
  simp only [wp_bind', W.ite, h0, if_false, wp_pure', W.theClass, hkA, Option.some.injEq, exists_eq_left', hkindA, h3, h00]
  refine W.newArray_of hkA hkindA hl3 hh3 (by omega) (by omega) rfl (fun a => ?_)
  rw [if_neg (by simp)]
  simp only [Std.Legacy.Range.forIn_eq_forIn_range', Std.Legacy.Range.size, wp_bind', wp_pure']
  simp only [List.range', List.forIn_cons, List.forIn_nil, Nat.sub_zero, Nat.reduceAdd, Nat.reduceSub, Nat.reduceDiv, wp_bind', wp_pure', Nat.zero_add]
  have hsz : (s.pushCell (mu_out cA)).heap.size = s.heap.size + 1 := by simp [State.pushCell]
  have hus : (s.pushCell (mu_out cA)).slotsUsed = s.slotsUsed + 3 := mu_used s (mu_out cA)
  have hat : (s.pushCell (mu_out cA)).heap[s.heap.size]? = some (mu_out cA) := by simp [State.pushCell]
  have hvm : (s.pushCell (mu_out cA)).vm = s.vm := rfl
  have hQ : ∀ acts', Q s.heap.size true acts' (mu_row (mu_row (mu_row (s.pushCell (mu_out cA)) s.heap.size (mu_out cA) 0 (mu_in comp)) s.heap.size ((mu_out cA).setSlot 0 (.ref (s.heap.size + 1))) 1 (mu_in comp)) s.heap.size (((mu_out cA).setSlot 0 (.ref (s.heap.size + 1))).setSlot 1 (.ref (s.heap.size + 2))) 2 (mu_in comp)) := hq
  change wp _ _ _ _ _ _ (s.pushCell (mu_out cA))
  generalize s.pushCell (mu_out cA) = S0 at hsz hus hat hvm hQ ⊢
  refine mv_row (a := s.heap.size) (i := 0) (kA := kA) (C := mu_out cA) (by rw [hvm]; exact hk) hkind hl hh (by omega) (by omega) hat rfl (by show 0 < Array.size _; simp [mu_out]) (by rw [hvm]; exact hkA) hkindA (fun a1 => ?_)
  have hsz1 := mu_size S0 s.heap.size (mu_out cA) 0 (mu_in comp)
  have hus1 := mu_rowUsed S0 (mu_out cA) 0 (mu_in comp) hat
  have hat1 := mu_at S0 (mu_out cA) 0 (mu_in comp) (a := s.heap.size) (by omega)
  have hvm1 : (mu_row S0 s.heap.size (mu_out cA) 0 (mu_in comp)).vm = S0.vm := rfl
  have hi : (mu_in comp).slots.size = 24 := rfl
  rw [hsz] at hat1
  generalize mu_row S0 s.heap.size (mu_out cA) 0 (mu_in comp) = S1 at hsz1 hus1 hat1 hvm1 hQ ⊢
  simp only [wp_bind', wp_pure']
  refine mv_row (a := s.heap.size) (i := 1) (kA := kA) (C := (mu_out cA).setSlot 0 (.ref (s.heap.size + 1))) (by rw [hvm1, hvm]; exact hk) hkind hl hh (by omega) (by omega) hat1 rfl (by show 1 < Array.size _; simp [Cell.setSlot, mu_out]) (by rw [hvm1, hvm]; exact hkA) hkindA (fun a2 => ?_)
  have e1 : S1.heap.size = s.heap.size + 2 := by omega
  have hsz2 := mu_size S1 s.heap.size ((mu_out cA).setSlot 0 (.ref (s.heap.size + 1))) 1 (mu_in comp)
  have hus2 := mu_rowUsed S1 ((mu_out cA).setSlot 0 (.ref (s.heap.size + 1))) 1 (mu_in comp) hat1
  have hat2 := mu_at S1 ((mu_out cA).setSlot 0 (.ref (s.heap.size + 1))) 1 (mu_in comp) (a := s.heap.size) (by omega)
  have hvm2 : (mu_row S1 s.heap.size ((mu_out cA).setSlot 0 (.ref (s.heap.size + 1))) 1 (mu_in comp)).vm = S1.vm := rfl
  rw [e1] at hat2
  generalize mu_row S1 s.heap.size ((mu_out cA).setSlot 0 (.ref (s.heap.size + 1))) 1 (mu_in comp) = S2 at hsz2 hus2 hat2 hvm2 hQ ⊢
  simp only [wp_bind', wp_pure']
  refine mv_row (a := s.heap.size) (i := 2) (kA := kA) (C := ((mu_out cA).setSlot 0 (.ref (s.heap.size + 1))).setSlot 1 (.ref (s.heap.size + 2))) (by rw [hvm2, hvm1, hvm]; exact hk) hkind hl hh (by omega) (by omega) hat2 rfl (by show 2 < Array.size _; simp [Cell.setSlot, mu_out]) (by rw [hvm2, hvm1, hvm]; exact hkA) hkindA (fun a3 => ?_)
  simp only [wp_bind', wp_pure']
  exact hQ a3
end MW
section MX
variable {e : Env} {d : Bool} {acts : List Action} {E : CtlPost} {s : State}
theorem mx_top (s : State) (f : JFrame) (cA comp : ClassId) : mu_all (s.setTop f) cA comp = (mu_all s cA comp).setTop f := by
  simp [mu_all, mu_row]
theorem mx_sem {Q : Unit → Pre} {f : JFrame} {index : Nat} {rest : List Value} {cA comp cc : ClassId} {kA kc : Class} (ht : s.topJava?.isSome) (hr : s.vm.classReady f.method.cls index cA) (hst : f.stack = .int 24 :: .int 3 :: rest) (hkA : s.vm.classes[cA]? = some kA) (hkindA : kA.kind = .array comp (.array .int)) (hk : s.vm.classes[comp]? = some kc) (hkind : kc.kind = .array cc .int)
    (hl : ¬ 24 > e.platform.arrayLengthLimit) (hh : ¬ 24 * componentBytes .int > e.platform.maxHeapBytes) (hl3 : ¬ 3 > e.platform.arrayLengthLimit) (hh3 : ¬ 3 * componentBytes (.array .int) > e.platform.maxHeapBytes)
    (hc : s.heap.size + 4 ≤ e.platform.maxCells) (hs : s.slotsUsed + 75 ≤ e.platform.maxSlots) (hq : ∀ acts', Q () true acts' ((mu_all s cA comp).setTop { f with stack := .ref s.heap.size :: rest })) : wp (Op.multianewarray.sem index 2) Q E e d acts (s.setTop f) := by
  rw [Op.multianewarray.sem, wp_bind']
  refine (W.resolveClassAt_ready (State.method?_setTop f ht) hr).mpr ?_
  rw [wp_bind']
  refine (popN_top (f := f) (args := [.int 3, .int 24]) (rest := rest) ht hst).mpr ?_
  simp only [List.mapM_cons, List.mapM_nil, wp_bind', wp_pure', pure_bind]
  refine mw_make (cc := cc) (kc := kc) (kA := kA) (comp := comp) hkA hkindA hk hkind hl hh hl3 hh3 hc hs (fun acts' => ?_)
  rw [mx_top]
  simp only [wp_bind', W.mark]
  refine (W.pushRef _).mpr ⟨{ f with stack := rest }, ?_, ?_⟩
  · simp [State.topJava?_setTop' _ (show (mu_all s cA comp).topJava?.isSome from ht)]
  · rw [State.setTop_setTop]
    exact hq acts'
end MX
section MY
variable {p : Program} {l : Launch} {e : Env} {R : Room} {s : State} {m : MethodId} {args : Array Value} {below : List Frame} {meth : Method} {c : Code} {T : State} {locs : List Loc} {cells slots : Nat}
theorem my_alike {a b : Array Value} {U : State} {ty : FieldType} (h : s.vm.Alike U.vm) (o : (Cond.arrayOver ty).before a s = true) : (Cond.arrayOver ty).before b U = true := by
  rw [← o, ← Cond.arrayOver_setVmC (args := a) h ty]
  rfl
theorem my_over {a : Array Value} (h : (Cond.arrayOver (.array .int)).before a s = true) : ∃ comp cA kA, s.vm.findClass "[I" = some comp ∧ s.vm.classes[cA]? = some kA ∧ kA.kind = .array comp (.array .int) ∧ s.vm.findClass "[[I" = some cA := by
  have e1 : (FieldType.array .int).toString = "[I" := by decide
  simp only [Cond.before, Cond.holds, Cond.value, e1, beq_iff_eq, Option.bind_eq_some_iff, Option.map_eq_some_iff] at h
  obtain ⟨comp, hc, i, hi, k, hk, hb⟩ := h
  obtain ⟨hlt, hp, -⟩ := Array.findIdx?_eq_some_iff_getElem.mp hi
  rw [(Array.getElem?_eq_some_iff.mp hk).2] at hp
  cases hkind : k.kind with
  | array component ty =>
    rw [hkind] at hb hp
    simp only [Bool.and_eq_true, decide_eq_true_eq, beq_iff_eq] at hb hp
    exact ⟨comp, i, k, hc, hk, by rw [hkind, hp, hb.1], hb.2⟩
  | _ => rw [hkind] at hb; simp at hb
theorem my_stand (X : Stand p l e R s m args below meth c T locs cells slots) (cA comp : ClassId) : Stand p l e R s m args below meth c (mu_all T cA comp) locs (cells + 4) (slots + 75) := by
  have X0 := X.pushed (mu_out cA)
  have h0 : (T.pushCell (mu_out cA)).heap[T.heap.size]? = some (mu_out cA) := by simp [State.pushCell]
  have z0 : (T.pushCell (mu_out cA)).heap.size = T.heap.size + 1 := by simp [State.pushCell]
  unfold mu_all
  dsimp only
  generalize T.pushCell (mu_out cA) = S0 at X0 h0 z0 ⊢
  have row : ∀ {S : State} {C : Cell} {i : Nat} {lc : List Loc} {n k : Nat}, Stand p l e R s m args below meth c S lc n k → S.heap[T.heap.size]? = some C → Stand p l e R s m args below meth c (mu_row S T.heap.size C i (mu_in comp)) (lc ++ [⟨T.heap.size, i⟩]) (n + 1) (k + 24) := by
    intro S C i lc n k Y hC
    have Y1 := Y.pushed (mu_in comp)
    refine Y1.stored ?_ i _
    have hlt := (Array.getElem?_eq_some_iff.mp hC).1
    show (S.heap.push _)[T.heap.size]? = _
    rw [Array.getElem?_push_lt hlt, ← Array.getElem?_eq_getElem hlt, hC]
  have X1 := row (i := 0) X0 h0
  have h1 := mu_at S0 (mu_out cA) 0 (mu_in comp) (a := T.heap.size) (by omega)
  have z1 := mu_size S0 T.heap.size (mu_out cA) 0 (mu_in comp)
  rw [z0] at h1
  generalize mu_row S0 T.heap.size (mu_out cA) 0 (mu_in comp) = S1 at X1 h1 z1 ⊢
  have X2 := row (i := 1) X1 h1
  have h2 := mu_at S1 ((mu_out cA).setSlot 0 (.ref (T.heap.size + 1))) 1 (mu_in comp) (a := T.heap.size) (by omega)
  rw [show S1.heap.size = T.heap.size + 2 by omega] at h2
  have X3 := row (i := 2) X2 h2
  have hg := X.heapGrown
  have X4 := Stand.dropFresh (J := [⟨T.heap.size, 0⟩, ⟨T.heap.size, 1⟩, ⟨T.heap.size, 2⟩]) (locs := locs) (by simpa using X3) (fun x hx => by
    simp only [List.mem_cons, List.not_mem_nil, or_false] at hx
    rcases hx with rfl | rfl | rfl <;> exact hg)
  exact X4
end MY
section MZ
variable {p : Program} {l : Launch} {e : Env} {R : Room} {s : State} {m : MethodId} {args : Array Value} {below : List Frame} {meth : Method} {c : Code} {T : State} {locs : List Loc} {cells slots : Nat}
theorem mz_multi (X : Stand p l e R s m args below meth c T locs cells slots) (hexec : p.tables.exec = Jvm.exec) {own : String} {index : Nat} (hown : s.vm.findClass own = some m.cls) (hclink : (Cond.classLink own index "[[I").before args s = true)
    {a : Array Value} (hover : (Cond.arrayOver (.array .int)).before a s = true) (harr : (Cond.arrayClass .int).before args s = true) {g : JFrame} (hg : g.method = m) (hdg : decode c.code g.pc = .ok (.multianewarray index 2, 4)) {rest : List Value} (hstack : g.stack = .int 24 :: .int 3 :: rest)
    (hcells : cells + 4 ≤ R.cells) (hslots : slots + 75 ≤ R.slots) :
    ∃ (vm₁ : Vm) (cA comp : ClassId), s.vm.findClass "[[I" = some cA ∧ s.vm.findClass "[I" = some comp ∧ Stand p l e R s m args below meth c (mu_all (T.setVm vm₁) cA comp) locs (cells + 4) (slots + 75) ∧
      ∀ target, Steps p.tables e below ((mu_all (T.setVm vm₁) cA comp).setTop { g with pc := g.pc + 4, stack := .ref T.heap.size :: rest }) target → Steps p.tables e below (T.setTop g) target := by
  subst hg
  have hpl : e.platform.magicAccessors = ({} : Platform).magicAccessors := by rw [X.admits.platform]
  obtain ⟨comp, cA, kA, hcomp, hkA, hkindA, hnA⟩ := my_over hover
  obtain ⟨c2, kc, cc, hc2, hkc, hkindc⟩ := Cond.arrayClass_spec harr
  have e2 : c2 = comp := Option.some.inj (hc2.symm.trans hcomp)
  subst e2
  obtain ⟨c3, hc3, hcl⟩ := Cond.classLink_spec hown hclink e.platform hpl
  have e3 : c3 = cA := Option.some.inj (hc3.symm.trans hnA)
  subst e3
  obtain ⟨hg1, hw1, hr1⟩ := State.classEntry (e := e) X.warmed hcl
  generalize T.vm.noted g.method.cls index (.cls c3) = vm₁ at hg1 hw1 hr1
  obtain ⟨kA1, hkA1, heA⟩ := hw1.alike.2.2 _ _ hkA
  obtain ⟨kc1, hkc1, hec⟩ := hw1.alike.2.2 _ _ hkc
  obtain ⟨q1, q2⟩ := X.roomAbove hcells hslots
  have hlim := Launch.admits_arrayLengthLimit X.admits
  have hhp := Launch.admits_maxHeapBytes X.admits
  refine ⟨vm₁, c3, c2, hnA, hcomp, my_stand (X.noted hw1) c3 c2, fun target hrest => ?_⟩
  jvm_step X.here [hexec, hdg]
  have hcold : ∀ {Q : Unit → Pre} {E : CtlPost} {d : Bool} {acts : List Action}, wp (Op.multianewarray.sem index 2) Q E e d acts ((T.setVm vm₁).setTop g) → wp (Op.multianewarray.sem index 2) Q E e d acts (T.setTop g) := by
    intro Q E d acts h
    rw [Op.multianewarray.sem, wp_bind'] at h ⊢
    exact (W.resolveClassAt_transfer (s := T.setTop g) (State.method?_setTop g X.here.top) hg1 hr1).mpr h
  refine hcold (mx_sem (s := T.setVm vm₁) (kA := kA1) (kc := kc1) (cA := c3) (comp := c2) (cc := cc) (rest := rest) X.here.top hr1 hstack hkA1 (by rw [heA]; exact hkindA) hkc1 (by rw [hec]; exact hkindc) (by omega) (by rw [hhp]; decide) (by omega) (by rw [hhp]; decide) q1 q2 (fun acts' acts2 => ?_))
  have ht : (mu_all (T.setVm vm₁) c3 c2).topJava?.isSome := X.here.top
  simp [jvm, ht]
  exact hrest
end MZ
section MZ2
theorem my_spec {s : State} {a : Array Value} (h : (Cond.arrayOver (.array .int)).before a s = true) : ∃ comp c k, s.vm.findClass (FieldType.array .int).toString = some comp ∧ True ∧ s.vm.classes[c]? = some k ∧ k.kind = .array comp (.array .int) ∧ s.vm.findClass ("[" ++ (FieldType.array .int).toString) = some c := by
  obtain ⟨comp, cA, kA, f, g, hk, n⟩ := my_over h
  exact ⟨comp, cA, kA, f, trivial, g, hk, n⟩
end MZ2
