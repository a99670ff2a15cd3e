-- what every contract of this claim takes as given beside its own cells
def fTK : Nat → Int32 := fun j => if j = 0 then 15 else if j = 1 then 3 else if j = 2 then 12 else if j = 3 then 0 else 3
def fRG : Nat → Int32 := fun j => if j = 0 then 2 else if j = 1 then 4 else if j = 2 then 3 else if j = 3 then 5 else if j = 4 then 0 else if j = 5 then 2 else if j = 6 then 1 else 3
def fKK : Nat → Int32 := fun j => if j = 0 then 1 else if j = 1 then 3 else if j = 2 then 5 else if j = 3 then 9 else 19
def fKC : Nat → Int32 := fun j => if j = 0 then 3 else if j = 1 then 5 else 19
abbrev TY (cy : Nat → ClassId) : List (ClassId × FieldType) := [(cy 0, .int), (cy 1, .byte), (cy 2, .object RX0), (cy 3, .object RX3), (cy 4, .array .int)]
def sx_st (nm : String) (N : Nat) (f : Nat → Int32) (A : Nat → Prop) (U : State) : Prop := ∃ t : Nat, va_Z "CubeTower" nm "[I" (.ref t) A U U.heap ∧ va_T .int t N (fun j => .int (f j)) A U U.heap
-- the String constant of the kinds' letters
def bySG : List (List Int32) := [[99, 115, 116, 102, 104]]
def sx_sg (D : va_G) (A : Nat → Prop) (U : State) : Prop := vk_R RX4 59 "cstfh" (D.2 99 0) U ∧ vk_S 1 [5] bySG (fun _ => D.2 99 0) (fun _ => D.2 99 1) A U U.heap ∧ va_Z "java/lang/String" "COMPACT_STRINGS" "Z" (.int 1) A U U.heap
theorem sx_sg.to {D : va_G} {A B : Nat → Prop} {s U : State} {H : Heap} {locs : List Loc} (h : sx_sg D A s) (hU : U.heap = H) (hW : s.WarmedH U.vm) (hS : va_S A s.heap H locs) (hBA : ∀ q, B q → A q) : sx_sg D B U := by
  obtain ⟨h1, h2, h3⟩ := h
  subst hU
  exact ⟨h1.warm hW, ((h2.kept hS.2.1).moved hW.alike).narrow hBA, ((h3.kept hS.2.1).moved hW.alike).narrow hBA⟩
theorem sx_sg.calling {D : va_G} {A : Nat → Prop} {U : State} (g : JFrame) (mk : MethodId) (a : Array Value) (h : sx_sg D A U) : sx_sg D A (U.calling g mk a) := by
  obtain ⟨h1, h2, h3⟩ := h
  have hv : U.vm.Alike (U.calling g mk a).vm := Vm.Alike.refl U.vm
  exact ⟨vk_R.same rfl h1, vk_S.moved hv h2, va_Z.moved hv h3⟩
def sx_nt (U : State) : Prop := va_Nw (.methodLinkNest RX4 15 yX2_init "CubeTower") U ∧ va_Nw (.methodLinkNest RX2 11 yX0_init "CubeTower") U ∧ va_Nw (.methodLinkNest RX4 28 yX1_init "CubeTower") U ∧ va_Nw (.methodLinkNest RX3 25 yX4_canTurn "CubeTower") U ∧ va_Nw (.methodLinkNest RX3 39 yX4_turnRow "CubeTower") U ∧ va_Nw (.methodLinkNest RX0 22 yX4_turnRow "CubeTower") U
def sx_ao (U : State) : Prop := va_AO RX0 U ∧ va_AO RX3 U ∧ va_Nw (.arrayOver (.array .int)) U
def sx (D : va_G) (cy : Nat → ClassId) (A : Nat → Prop) (U : State) : Prop := va_K D vwCl (TY cy) U ∧ (sx_st "TURNS_OF_KIND" 5 fTK A U ∧ sx_st "RINGS" 8 fRG A U ∧ sx_st "KINDS_OF_KIND" 5 fKK A U ∧ sx_st "KINDS_THAT_COULD" 3 fKC A U ∧ sx_sg D A U) ∧ sx_nt U ∧ sx_ao U
theorem sx_st.to {nm : String} {N : Nat} {f : Nat → Int32} {A B : Nat → Prop} {s U : State} {H : Heap} {locs : List Loc} (h : sx_st nm N f A s) (hU : U.heap = H) (hvm : s.vm.Alike U.vm) (hS : va_S A s.heap H locs) (hBA : ∀ q, B q → A q) : sx_st nm N f B U := by
  obtain ⟨t, h1, h2⟩ := h
  subst hU
  exact ⟨t, ((h1.kept hS.2.1).moved hvm).narrow hBA, ((h2.kept hS.2.1).moved hvm).narrow hBA⟩
theorem sx.to {D : va_G} {cy : Nat → ClassId} {A B : Nat → Prop} {s U : State} {H : Heap} {locs : List Loc} (h : sx D cy A s) (hU : U.heap = H) (hW : s.WarmedH U.vm) (hS : va_S A s.heap H locs) (hBA : ∀ q, B q → A q) : sx D cy B U := by
  obtain ⟨hK, ⟨a1, a2, a3, a4, a5⟩, ⟨n1, n2, n3, n4, n5, n6⟩, o1, o2, o3⟩ := h
  have hvm := hW.alike
  exact ⟨va_K.moved hvm hK, ⟨a1.to hU hvm hS hBA, a2.to hU hvm hS hBA, a3.to hU hvm hS hBA, a4.to hU hvm hS hBA, a5.to hU hW hS hBA⟩, ⟨n1.warmM hW, n2.warmM hW, n3.warmM hW, n4.warmM hW, n5.warmM hW, n6.warmM hW⟩, o1.moved hvm, o2.moved hvm, my_alike hvm o3⟩
theorem sx.calling {D : va_G} {cy : Nat → ClassId} {A : Nat → Prop} {U : State} (g : JFrame) (mk : MethodId) (a : Array Value) (h : sx D cy A U) : sx D cy A (U.calling g mk a) := by
  obtain ⟨hK, ⟨⟨t1, a1, b1⟩, ⟨t2, a2, b2⟩, ⟨t3, a3, b3⟩, ⟨t4, a4, b4⟩, a5⟩, ⟨n1, n2, n3, n4, n5, n6⟩, o1, o2, o3⟩ := h
  have hv : U.vm.Alike (U.calling g mk a).vm := Vm.Alike.refl U.vm
  exact ⟨va_K.moved hv hK, ⟨⟨t1, va_Z.moved hv a1, va_T.moved hv b1⟩, ⟨t2, va_Z.moved hv a2, va_T.moved hv b2⟩, ⟨t3, va_Z.moved hv a3, va_T.moved hv b3⟩, ⟨t4, va_Z.moved hv a4, va_T.moved hv b4⟩, a5.calling g mk a⟩, ⟨va_Nw.same rfl rfl n1, va_Nw.same rfl rfl n2, va_Nw.same rfl rfl n3, va_Nw.same rfl rfl n4, va_Nw.same rfl rfl n5, va_Nw.same rfl rfl n6⟩, va_AO.moved hv o1, va_AO.moved hv o2, my_alike hv o3⟩
def cpre (D : va_G) (cy : Nat → ClassId) (ws : va_W) (sz : Nat) (U : State) : Prop := U.heap.size = sz ∧ va_P D vwCl ws U.heap ∧ va_D (fun _ => True) ws ∧ sx D cy (va_A ws sz) U
def cpost (D : va_G) (A : Nat → Prop) (u : va_W) (t : State) : Prop := va_P D vwCl u t.heap ∧ va_D A u
theorem cpre_blind {av : List Value} {D : va_G} {cy : Nat → ClassId} {ws : va_W} {sz : Nat} : FrameBlind (va_Pc av (cpre D cy ws sz)) := fun a U g mk q => ⟨q.1, q.2.1, q.2.2.1, q.2.2.2.1, q.2.2.2.2.calling g mk a⟩
theorem vP_cut {D : va_G} {cl : List vw_C} {ws wc : va_W} {H : Heap} (hP : va_P D cl ws H) (isC : List Nat) (hC : isC.map (fun i => ws[i]?) = wc.map some) : va_P D cl wc H := by
  intro k q hq
  have h1 : (isC.map (fun i => ws[i]?))[k]? = some (some q) := by rw [hC, List.getElem?_map, hq]; rfl
  rw [List.getElem?_map] at h1
  cases hi : isC[k]? with
  | none => rw [hi] at h1; cases h1
  | some i => rw [hi] at h1; exact hP i q (Option.some.inj h1)
theorem cpre_S {D : va_G} {cy : Nat → ClassId} {A : Nat → Prop} {s : State} {H : Heap} {locs : List Loc} {av : List Value} {ws wc : va_W} (hX : sx D cy A s) (hP : va_P D vwCl ws H) (hD : va_D A ws) (hS : va_S A s.heap H locs) (hA : ∀ q, s.heap.size ≤ q → A q) (isC : List Nat) (hn : va_nd isC = true) (hC : isC.map (fun i => ws[i]?) = wc.map some) : PreS s H (va_Pc av (cpre D cy wc H.size)) av :=
  ⟨cpre_blind, fun U hU hW => ⟨rfl, by rw [hU], by rw [hU]; exact vP_cut hP isC hC, (hD.sub isC hn hC).weaken (fun _ _ _ _ => trivial), hX.to hU hW hS (va_free hD hS hA isC hC)⟩⟩
theorem cpre_V {D : va_G} {cy : Nat → ClassId} {A : Nat → Prop} {s : State} {H : Heap} {locs : List Loc} {As : List Value} {ws wc : va_W} {b : Nat} {r : vw_C} {fs : List Value} (q0 ci : Nat) (hc : vwCl[ci]? = some r) (he : ws[q0]? = some (b, .inr (ci, fs))) (hX : sx D cy A s) (hP : va_P D vwCl ws H) (hD : va_D A ws) (hS : va_S A s.heap H locs) (hA : ∀ q, s.heap.size ≤ q → A q) (isC : List Nat) (hn : va_nd isC = true) (hC : isC.map (fun i => ws[i]?) = wc.map some) : PreV s H r.1 b (va_Pc (.ref b :: As) (cpre D cy wc H.size)) As :=
  ⟨cpre_blind, va_recv hX.1 hP hc he, (cpre_S hX hP hD hS hA isC hn hC).2⟩
theorem cpre_W {D : va_G} {cy : Nat → ClassId} {A : Nat → Prop} {s : State} {H : Heap} {locs : List Loc} {As : List Value} {ws : va_W} (hX : sx D cy A s) (hP : va_P D vwCl ws H) (hD : va_D A ws) (hS : va_S A s.heap H locs) (hA : ∀ q, s.heap.size ≤ q → A q) : PreV s H "java/lang/String" (D.2 99 0) (va_Pc (.ref (D.2 99 0) :: As) (cpre D cy [] H.size)) As :=
  ⟨cpre_blind, vk_recv (N := 1) (adK := fun _ => D.2 99 0) (i := 0) hX.2.1.2.2.2.2.2.1 (by decide) hS, (cpre_S (wc := []) hX hP hD hS hA [] rfl rfl).2⟩
section KC
variable {p : Program} {l : Launch} {e : Env} {R : Room} {s : State} {m : MethodId} {args : Array Value} {below : List Frame} {meth : Method} {c : Code} {H : Heap} {locs : List Loc} {cells slots : Nat} {Q : State → Prop}
variable {cc : ByteArray} {pc : Nat} {ls : Array Slot} {rest st0 : List Value} {D : va_G} {cy : Nat → ClassId} {A : Nat → Prop} {ws wc wr : va_W} {mc ms : Nat} {a : Array Value}
theorem kc_i {post : Int32 → va_W → Prop} (hr : va_Run p l e R s m args below meth c H locs cells slots mc ms (F0 m pc ls st0) rest (va_Qi post (cpost D (va_A wc H.size)) (va_A wc H.size) a) (va_A wc H.size)) (hP : va_P D vwCl ws H) (hD : va_D A ws) (hS : va_S A s.heap H locs) (hA : ∀ q, s.heap.size ≤ q → A q) (isC isR : List Nat) (hC : isC.map (fun i => ws[i]?) = wc.map some) (hR : isR.map (fun i => ws[i]?) = wr.map some) (hn : va_nd isR = true) (hdis : ∀ i ∈ isR, i ∉ isC)
    (kk : ∀ (r : Int32) (u : va_W) (H1 : Heap) (locs1 : List Loc), post r u → va_P D vwCl (wr ++ u) H1 → va_D A (wr ++ u) → va_S A s.heap H1 locs1 → W p l e R s m args below meth c H1 locs1 (cells + mc) (slots + ms) Q (F0 m (pc + 3) ls (.int r :: rest))) : W p l e R s m args below meth c H locs cells slots Q (F0 m pc ls st0) := by
  refine va_calli hr hS (fun q _ h => va_free hD hS hA isC hC q h) (va_free hD hS hA isC hC) (fun r u t H1 locs1 ht hvm hw hB hz1 hk1 hS1 => ?_)
  obtain ⟨hP1, hD1⟩ := hB
  rw [ht] at hP1
  obtain ⟨hP2, hD2⟩ := va_join hP hD isC isR hC hR hn hdis hk1 (va_free hD hS hA isC hC) hP1 hD1
  exact kk r u H1 locs1 hw hP2 hD2 hS1
theorem kc_l {post : Int64 → va_W → Prop} (hr : va_Run p l e R s m args below meth c H locs cells slots mc ms (F0 m pc ls st0) rest (va_Ql post (cpost D (va_A wc H.size)) (va_A wc H.size) a) (va_A wc H.size)) (hP : va_P D vwCl ws H) (hD : va_D A ws) (hS : va_S A s.heap H locs) (hA : ∀ q, s.heap.size ≤ q → A q) (isC isR : List Nat) (hC : isC.map (fun i => ws[i]?) = wc.map some) (hR : isR.map (fun i => ws[i]?) = wr.map some) (hn : va_nd isR = true) (hdis : ∀ i ∈ isR, i ∉ isC)
    (kk : ∀ (r : Int64) (u : va_W) (H1 : Heap) (locs1 : List Loc), post r u → va_P D vwCl (wr ++ u) H1 → va_D A (wr ++ u) → va_S A s.heap H1 locs1 → W p l e R s m args below meth c H1 locs1 (cells + mc) (slots + ms) Q (F0 m (pc + 3) ls (.long r :: rest))) : W p l e R s m args below meth c H locs cells slots Q (F0 m pc ls st0) := by
  refine va_calll hr hS (fun q _ h => va_free hD hS hA isC hC q h) (va_free hD hS hA isC hC) (fun r u t H1 locs1 ht hvm hw hB hz1 hk1 hS1 => ?_)
  obtain ⟨hP1, hD1⟩ := hB
  rw [ht] at hP1
  obtain ⟨hP2, hD2⟩ := va_join hP hD isC isR hC hR hn hdis hk1 (va_free hD hS hA isC hC) hP1 hD1
  exact kk r u H1 locs1 hw hP2 hD2 hS1
theorem kc_v {post : va_W → Prop} (hr : va_Run p l e R s m args below meth c H locs cells slots mc ms (F0 m pc ls st0) rest (va_Qv post (cpost D (va_A wc H.size)) (va_A wc H.size) a) (va_A wc H.size)) (hP : va_P D vwCl ws H) (hD : va_D A ws) (hS : va_S A s.heap H locs) (hA : ∀ q, s.heap.size ≤ q → A q) (isC isR : List Nat) (hC : isC.map (fun i => ws[i]?) = wc.map some) (hR : isR.map (fun i => ws[i]?) = wr.map some) (hn : va_nd isR = true) (hdis : ∀ i ∈ isR, i ∉ isC)
    (kk : ∀ (u : va_W) (H1 : Heap) (locs1 : List Loc), post u → va_P D vwCl (wr ++ u) H1 → va_D A (wr ++ u) → va_S A s.heap H1 locs1 → W p l e R s m args below meth c H1 locs1 (cells + mc) (slots + ms) Q (F0 m (pc + 3) ls rest)) : W p l e R s m args below meth c H locs cells slots Q (F0 m pc ls st0) := by
  refine va_callv hr hS (fun q _ h => va_free hD hS hA isC hC q h) (va_free hD hS hA isC hC) (fun u t H1 locs1 ht hvm hw hB hz1 hk1 hS1 => ?_)
  obtain ⟨hP1, hD1⟩ := hB
  rw [ht] at hP1
  obtain ⟨hP2, hD2⟩ := va_join hP hD isC isR hC hR hn hdis hk1 (va_free hD hS hA isC hC) hP1 hD1
  exact kk u H1 locs1 hw hP2 hD2 hS1
theorem nw_i (hx : p.tables.exec = Jvm.exec) (hb : c.code = cc) (hX : sx D cy A s) (harr : (Cond.arrayClass .int).before args s = true) (hP : va_P D vwCl ws H) (hD : va_D A ws) (hS : va_S A s.heap H locs) (hA : ∀ q, s.heap.size ≤ q → A q) {n : Int32} {N' : Nat} (hn : ¬ n < 0) (hN : n.toNatClampNeg = N') (hbytes : N' * componentBytes .int ≤ 536870912) (hcells : cells + 1 ≤ R.cells) (hslots : slots + N' ≤ R.slots) (hdg : decode cc pc = .ok (.newarray .int, 2))
    (kk : ∀ (q : Nat) (H1 : Heap), va_P D vwCl (ws ++ [(q, .inl (cy 0, N', .inl (fun _ => 0)))]) H1 → va_D A (ws ++ [(q, .inl (cy 0, N', .inl (fun _ => 0)))]) → va_S A s.heap H1 locs → W p l e R s m args below meth c H1 locs (cells + 1) (slots + N') Q (F0 m (pc + 2) ls (.ref q :: rest))) : W p l e R s m args below meth c H locs cells slots Q (F0 m pc ls (.int n :: rest)) := by
  refine va_newa (atype := .int) (ty := .int) (a0 := (N', .inl (fun _ => 0))) hx hb harr rfl hX.1 hP hD hS hA (fun _ => rfl) hn hN hbytes hcells hslots hdg (fun q cA H1 hK1 hP1 hD1 hS1 => ?_)
  have h1 : s.vm.findClass ("[" ++ FieldType.int.toString) = some cA := (hK1.2 5 (cA, .int) rfl).2
  have h2 : s.vm.findClass ("[" ++ FieldType.int.toString) = some (cy 0) := (hX.1.2 0 (cy 0, .int) rfl).2
  have h3 : cA = cy 0 := Option.some.inj (h1.symm.trans h2)
  subst h3
  exact kk q H1 hP1 hD1 hS1
theorem nw_b (hx : p.tables.exec = Jvm.exec) (hb : c.code = cc) (hX : sx D cy A s) (harr : (Cond.arrayClass .byte).before args s = true) (hP : va_P D vwCl ws H) (hD : va_D A ws) (hS : va_S A s.heap H locs) (hA : ∀ q, s.heap.size ≤ q → A q) {n : Int32} {N' : Nat} (hn : ¬ n < 0) (hN : n.toNatClampNeg = N') (hbytes : N' * componentBytes .byte ≤ 536870912) (hcells : cells + 1 ≤ R.cells) (hslots : slots + N' ≤ R.slots) (hdg : decode cc pc = .ok (.newarray .byte, 2))
    (kk : ∀ (q : Nat) (H1 : Heap), va_P D vwCl (ws ++ [(q, .inl (cy 1, N', .inl (fun _ => 0)))]) H1 → va_D A (ws ++ [(q, .inl (cy 1, N', .inl (fun _ => 0)))]) → va_S A s.heap H1 locs → W p l e R s m args below meth c H1 locs (cells + 1) (slots + N') Q (F0 m (pc + 2) ls (.ref q :: rest))) : W p l e R s m args below meth c H locs cells slots Q (F0 m pc ls (.int n :: rest)) := by
  refine va_newa (atype := .byte) (ty := .byte) (a0 := (N', .inl (fun _ => 0))) hx hb harr rfl hX.1 hP hD hS hA (fun _ => rfl) hn hN hbytes hcells hslots hdg (fun q cA H1 hK1 hP1 hD1 hS1 => ?_)
  have h1 : s.vm.findClass ("[" ++ FieldType.byte.toString) = some cA := (hK1.2 5 (cA, .byte) rfl).2
  have h2 : s.vm.findClass ("[" ++ FieldType.byte.toString) = some (cy 1) := (hX.1.2 1 (cy 1, .byte) rfl).2
  have h3 : cA = cy 1 := Option.some.inj (h1.symm.trans h2)
  subst h3
  exact kk q H1 hP1 hD1 hS1
theorem ra_o {U : State} {C : String} {x y : ClassId} (h1 : va_RA U x (.object C)) (h2 : va_RA U y (.object C)) : x = y := by
  obtain ⟨_, _, _, _, _, e1⟩ := h1
  obtain ⟨_, _, _, _, _, e2⟩ := h2
  exact Option.some.inj (e1.symm.trans e2)
theorem nw_q (hx : p.tables.exec = Jvm.exec) (hb : c.code = cc) (hX : sx D cy A s) {own C : String} {index : Nat} (k : Nat) (hk : (TY cy)[k]? = some (cy k, .object C)) (hown : s.vm.findClass own = some m.cls) (hclink : (Cond.classLink own index C).before args s = true) (hover : va_AO C s) (hP : va_P D vwCl ws H) (hD : va_D A ws) (hS : va_S A s.heap H locs) (hA : ∀ q, s.heap.size ≤ q → A q) {n : Int32} {N' : Nat} (hn : ¬ n < 0) (hN : n.toNatClampNeg = N') (hbytes : N' * 4 ≤ 536870912) (hcells : cells + 1 ≤ R.cells) (hslots : slots + N' ≤ R.slots) (hdg : decode cc pc = .ok (.anewarray index, 3))
    (kk : ∀ (q : Nat) (H1 : Heap), va_P D vwCl (ws ++ [(q, .inl (cy k, N', .inr (.inr (.inr (.inr (fun _ => none))))))]) H1 → va_D A (ws ++ [(q, .inl (cy k, N', .inr (.inr (.inr (.inr (fun _ => none))))))]) → va_S A s.heap H1 locs → W p l e R s m args below meth c H1 locs (cells + 1) (slots + N') Q (F0 m (pc + 3) ls (.ref q :: rest))) : W p l e R s m args below meth c H locs cells slots Q (F0 m pc ls (.int n :: rest)) := by
  refine va_newq hx hb hown hclink hover hX.1 hP hD hS hA hn hN hbytes hcells hslots hdg (fun q cA H1 hK1 hP1 hD1 hS1 => ?_)
  have h3 : cA = cy k := ra_o (hK1.2 5 (cA, .object C) rfl).2 (hX.1.2 k (cy k, .object C) hk).2
  subst h3
  exact kk q H1 hP1 hD1 hS1
end KC
