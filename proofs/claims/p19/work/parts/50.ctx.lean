/-! THE CLAIM OUT OF ONE WALK OF THE LAW'S BODY. Your part is whole_start (and what it stands on); all else here is the same for every law, but numbers. -/
def R_law : String := "CubeTowerLaw"
def lw_P (b : Addr) (xs : List Int32) (args : Array Value) (s : State) : Prop := args = #[.ref b] ∧ s.IntsAt b xs ∧ xs.length ≤ 2048 ∧ (Jvm.Cond.and given_1 narrow_1).before args s = true
def lw_Q (_ : Array Value) (s : State) (o : Outcome) (t : State) : Prop := o = .returned (some (.int 1)) ∧ Framed s o t [] 600000 7302249
def lw_Z (below : List Frame) (a : Array Value) (s : State) : State → Prop := fun t => ∃ o, t.status = .running ∧ Ended t below o ∧ lw_Q a s o t
/-- the law's own end, with 1 on the stack, nothing written that was there before, its room as the claim has it -/
theorem lw_ret {p : Program} {l : Launch} {e : Env} {s : State} {m : MethodId} {below : List Frame} {meth : Method} {c : Code} {b : Nat} (hx : p.tables.exec = Jvm.exec) (hb : c.code = code) (hr : meth.sig.returnType = ret) (hlocks : meth.locks = false) {pc : Nat} {H : Heap} {ls : Array Slot} (hdg : decode code pc = .ok (.ireturn, 1)) : W p l e room_1 s m #[Value.ref b] below meth c H [] 600000 7302249 (lw_Z below #[Value.ref b] s) (F0 m pc ls [.int 1]) := by
  intro T hT X
  obtain ⟨fs, hret, hrun, hended, hW, hframe⟩ := X.leave (v := some (.int 1)) (hlocks := hlocks) (fun h => by rw [hr] at h; cases h)
  have hmeth' : T.vm.method? m = some meth := X.method'
  refine ⟨T.setFrames fs, ?_, .returned (some (.int 1)), hrun, hended, rfl, ⟨_, rfl⟩, hW, hframe⟩
  jvm_step X.here [X.here.top, hx, hb, hdg, hmeth', hr, ret, narrow_b1]
  (try refine ⟨rfl, ?_⟩); (try refine ⟨rfl, ?_⟩)
  first | (intro acts; rw [hret _ acts rfl rfl rfl]) | rw [hret _ _ rfl rfl rfl]
  exact Steps.refl _
/-- what holds at the law's entry: the machine, the code, the tables' words (any of lw_tbl by 'hts w (by decide +kernel)'), the script of L ints xs at the cell b, what the Statement gives of the start (any of its parts by flat_of_before) -/
def lw_At (p : Program) (s : State) (m : MethodId) (meth : Method) (c : Code) (b L : Nat) (xs : Nat → Int32) : Prop :=
  p.tables.exec = Jvm.exec ∧ c.code = code ∧ meth.sig.returnType = ret ∧ c.maxLocals = 4 ∧ s.vm.findClass R_law = some m.cls ∧ (∀ w ∈ lw_tbl, w.before #[Value.ref b] s = true) ∧ va_X b L xs s s.heap ∧ b < s.heap.size ∧ meth.locks = false ∧ (Jvm.Cond.and given_1 narrow_1).before #[Value.ref b] s = true
theorem lc_fTK {p : Program} {s : State} {m : MethodId} {meth : Method} {c : Code} {b L : Nat} {xs : Nat → Int32} (C0 : lw_At p s m meth c b L xs) : sx_st "TURNS_OF_KIND" 5 fTK (fun q : Nat => s.heap.size ≤ q) s := by
  obtain ⟨-, -, -, -, -, hts, -, -, -, hgv⟩ := C0
  have hs := flat_of_before _ hgv
  have hA : ∀ a : Nat, a < s.heap.size → ¬ (fun q : Nat => s.heap.size ≤ q) a := fun a h => Nat.not_le.mpr h
  obtain ⟨t, ht, hT⟩ := va_Tof (tm := (.static "CubeTower" "TURNS_OF_KIND" "[I")) (ty := .int) (N := 5) (f := fun j => .int (fTK j)) (by decide) (hs (Cond.arrayOf (.static "CubeTower" "TURNS_OF_KIND" "[I") .int) (by decide +kernel)) (va_eqt (hs (Cond.eq (.length (.static "CubeTower" "TURNS_OF_KIND" "[I")) (.int 5)) (by decide +kernel))) (fun j hj => by
    rcases (show j = 0 ∨ j = 1 ∨ j = 2 ∨ j = 3 ∨ j = 4 by omega) with rfl | rfl | rfl | rfl | rfl
    · exact va_eqt (hs (Cond.eq (.elem (.static "CubeTower" "TURNS_OF_KIND" "[I") (.int 0)) (.int 15)) (by decide +kernel))
    · exact va_eqt (hs (Cond.eq (.elem (.static "CubeTower" "TURNS_OF_KIND" "[I") (.int 1)) (.int 3)) (by decide +kernel))
    · exact va_eqt (hs (Cond.eq (.elem (.static "CubeTower" "TURNS_OF_KIND" "[I") (.int 2)) (.int 12)) (by decide +kernel))
    · exact va_eqt (hs (Cond.eq (.elem (.static "CubeTower" "TURNS_OF_KIND" "[I") (.int 3)) (.int 0)) (by decide +kernel))
    · exact va_eqt (hs (Cond.eq (.elem (.static "CubeTower" "TURNS_OF_KIND" "[I") (.int 4)) (.int 3)) (by decide +kernel))) hA
  exact ⟨t, va_Zref (hts (.laysStatic "CubeTower" "TURNS_OF_KIND" "[I") (by decide +kernel)) (hts (.initialized "CubeTower") (by decide +kernel)) ht hA, hT⟩
theorem lc_fRG {p : Program} {s : State} {m : MethodId} {meth : Method} {c : Code} {b L : Nat} {xs : Nat → Int32} (C0 : lw_At p s m meth c b L xs) : sx_st "RINGS" 8 fRG (fun q : Nat => s.heap.size ≤ q) s := by
  obtain ⟨-, -, -, -, -, hts, -, -, -, hgv⟩ := C0
  have hs := flat_of_before _ hgv
  have hA : ∀ a : Nat, a < s.heap.size → ¬ (fun q : Nat => s.heap.size ≤ q) a := fun a h => Nat.not_le.mpr h
  obtain ⟨t, ht, hT⟩ := va_Tof (tm := (.static "CubeTower" "RINGS" "[I")) (ty := .int) (N := 8) (f := fun j => .int (fRG j)) (by decide) (hs (Cond.arrayOf (.static "CubeTower" "RINGS" "[I") .int) (by decide +kernel)) (va_eqt (hs (Cond.eq (.length (.static "CubeTower" "RINGS" "[I")) (.int 8)) (by decide +kernel))) (fun j hj => by
    rcases (show j = 0 ∨ j = 1 ∨ j = 2 ∨ j = 3 ∨ j = 4 ∨ j = 5 ∨ j = 6 ∨ j = 7 by omega) with rfl | rfl | rfl | rfl | rfl | rfl | rfl | rfl
    · exact va_eqt (hs (Cond.eq (.elem (.static "CubeTower" "RINGS" "[I") (.int 0)) (.int 2)) (by decide +kernel))
    · exact va_eqt (hs (Cond.eq (.elem (.static "CubeTower" "RINGS" "[I") (.int 1)) (.int 4)) (by decide +kernel))
    · exact va_eqt (hs (Cond.eq (.elem (.static "CubeTower" "RINGS" "[I") (.int 2)) (.int 3)) (by decide +kernel))
    · exact va_eqt (hs (Cond.eq (.elem (.static "CubeTower" "RINGS" "[I") (.int 3)) (.int 5)) (by decide +kernel))
    · exact va_eqt (hs (Cond.eq (.elem (.static "CubeTower" "RINGS" "[I") (.int 4)) (.int 0)) (by decide +kernel))
    · exact va_eqt (hs (Cond.eq (.elem (.static "CubeTower" "RINGS" "[I") (.int 5)) (.int 2)) (by decide +kernel))
    · exact va_eqt (hs (Cond.eq (.elem (.static "CubeTower" "RINGS" "[I") (.int 6)) (.int 1)) (by decide +kernel))
    · exact va_eqt (hs (Cond.eq (.elem (.static "CubeTower" "RINGS" "[I") (.int 7)) (.int 3)) (by decide +kernel))) hA
  exact ⟨t, va_Zref (hts (.laysStatic "CubeTower" "RINGS" "[I") (by decide +kernel)) (hts (.initialized "CubeTower") (by decide +kernel)) ht hA, hT⟩
theorem lc_fKK {p : Program} {s : State} {m : MethodId} {meth : Method} {c : Code} {b L : Nat} {xs : Nat → Int32} (C0 : lw_At p s m meth c b L xs) : sx_st "KINDS_OF_KIND" 5 fKK (fun q : Nat => s.heap.size ≤ q) s := by
  obtain ⟨-, -, -, -, -, hts, -, -, -, hgv⟩ := C0
  have hs := flat_of_before _ hgv
  have hA : ∀ a : Nat, a < s.heap.size → ¬ (fun q : Nat => s.heap.size ≤ q) a := fun a h => Nat.not_le.mpr h
  obtain ⟨t, ht, hT⟩ := va_Tof (tm := (.static "CubeTower" "KINDS_OF_KIND" "[I")) (ty := .int) (N := 5) (f := fun j => .int (fKK j)) (by decide) (hs (Cond.arrayOf (.static "CubeTower" "KINDS_OF_KIND" "[I") .int) (by decide +kernel)) (va_eqt (hs (Cond.eq (.length (.static "CubeTower" "KINDS_OF_KIND" "[I")) (.int 5)) (by decide +kernel))) (fun j hj => by
    rcases (show j = 0 ∨ j = 1 ∨ j = 2 ∨ j = 3 ∨ j = 4 by omega) with rfl | rfl | rfl | rfl | rfl
    · exact va_eqt (hs (Cond.eq (.elem (.static "CubeTower" "KINDS_OF_KIND" "[I") (.int 0)) (.int 1)) (by decide +kernel))
    · exact va_eqt (hs (Cond.eq (.elem (.static "CubeTower" "KINDS_OF_KIND" "[I") (.int 1)) (.int 3)) (by decide +kernel))
    · exact va_eqt (hs (Cond.eq (.elem (.static "CubeTower" "KINDS_OF_KIND" "[I") (.int 2)) (.int 5)) (by decide +kernel))
    · exact va_eqt (hs (Cond.eq (.elem (.static "CubeTower" "KINDS_OF_KIND" "[I") (.int 3)) (.int 9)) (by decide +kernel))
    · exact va_eqt (hs (Cond.eq (.elem (.static "CubeTower" "KINDS_OF_KIND" "[I") (.int 4)) (.int 19)) (by decide +kernel))) hA
  exact ⟨t, va_Zref (hts (.laysStatic "CubeTower" "KINDS_OF_KIND" "[I") (by decide +kernel)) (hts (.initialized "CubeTower") (by decide +kernel)) ht hA, hT⟩
theorem lc_fKC {p : Program} {s : State} {m : MethodId} {meth : Method} {c : Code} {b L : Nat} {xs : Nat → Int32} (C0 : lw_At p s m meth c b L xs) : sx_st "KINDS_THAT_COULD" 3 fKC (fun q : Nat => s.heap.size ≤ q) s := by
  obtain ⟨-, -, -, -, -, hts, -, -, -, hgv⟩ := C0
  have hs := flat_of_before _ hgv
  have hA : ∀ a : Nat, a < s.heap.size → ¬ (fun q : Nat => s.heap.size ≤ q) a := fun a h => Nat.not_le.mpr h
  obtain ⟨t, ht, hT⟩ := va_Tof (tm := (.static "CubeTower" "KINDS_THAT_COULD" "[I")) (ty := .int) (N := 3) (f := fun j => .int (fKC j)) (by decide) (hs (Cond.arrayOf (.static "CubeTower" "KINDS_THAT_COULD" "[I") .int) (by decide +kernel)) (va_eqt (hs (Cond.eq (.length (.static "CubeTower" "KINDS_THAT_COULD" "[I")) (.int 3)) (by decide +kernel))) (fun j hj => by
    rcases (show j = 0 ∨ j = 1 ∨ j = 2 by omega) with rfl | rfl | rfl
    · exact va_eqt (hs (Cond.eq (.elem (.static "CubeTower" "KINDS_THAT_COULD" "[I") (.int 0)) (.int 3)) (by decide +kernel))
    · exact va_eqt (hs (Cond.eq (.elem (.static "CubeTower" "KINDS_THAT_COULD" "[I") (.int 1)) (.int 5)) (by decide +kernel))
    · exact va_eqt (hs (Cond.eq (.elem (.static "CubeTower" "KINDS_THAT_COULD" "[I") (.int 2)) (.int 19)) (by decide +kernel))) hA
  exact ⟨t, va_Zref (hts (.laysStatic "CubeTower" "KINDS_THAT_COULD" "[I") (by decide +kernel)) (hts (.initialized "CubeTower") (by decide +kernel)) ht hA, hT⟩
theorem vk_Sc {len : List Nat} {byt : List (List Int32)} {adK adV : Nat → Nat} {A : Nat → Prop} {U : State} {H : Heap} (h : vk_S 1 len byt adK adV A U H) : vk_S 1 len byt (fun _ => adK 0) (fun _ => adV 0) A U H := by
  refine ⟨fun i hi => ?_, fun i j hi hj _ => by omega⟩
  obtain rfl : i = 0 := by omega
  exact h.1 0 hi
theorem lc_sg {p : Program} {s : State} {m : MethodId} {meth : Method} {c : Code} {b L : Nat} {xs : Nat → Int32} (C0 : lw_At p s m meth c b L xs) : ∃ aK aV : Nat, vk_R RX4 59 "cstfh" aK s ∧ vk_S 1 [5] bySG (fun _ => aK) (fun _ => aV) (fun q : Nat => s.heap.size ≤ q) s s.heap ∧ va_Z "java/lang/String" "COMPACT_STRINGS" "Z" (.int 1) (fun q : Nat => s.heap.size ≤ q) s s.heap := by
  obtain ⟨-, -, -, -, -, hts, -, -, -, hgv⟩ := C0
  have hs := flat_of_before _ hgv
  have hA : ∀ a : Nat, a < s.heap.size → ¬ (fun q : Nat => s.heap.size ≤ q) a := fun a h => Nat.not_le.mpr h
  have s1 : (Cond.exactly (.string RX4 59) "java/lang/String").before #[Value.ref b] s = true := hs _ (by decide +kernel)
  have s2 : (Cond.eq (.field (.string RX4 59) "java/lang/String" "coder" "B") (.int 0)).before #[Value.ref b] s = true := hs _ (by decide +kernel)
  have s3 : (Cond.arrayOf (.field (.string RX4 59) "java/lang/String" "value" "[B") .byte).before #[Value.ref b] s = true := hs _ (by decide +kernel)
  have s4 : (Cond.eq (.length (.field (.string RX4 59) "java/lang/String" "value" "[B")) (.int 5)).before #[Value.ref b] s = true := hs _ (by decide +kernel)
  have e0 : (Cond.eq (.elem (.field (.string RX4 59) "java/lang/String" "value" "[B") (.int 0)) (.int 99)).before #[Value.ref b] s = true := hs _ (by decide +kernel)
  have e1 : (Cond.eq (.elem (.field (.string RX4 59) "java/lang/String" "value" "[B") (.int 1)) (.int 115)).before #[Value.ref b] s = true := hs _ (by decide +kernel)
  have e2 : (Cond.eq (.elem (.field (.string RX4 59) "java/lang/String" "value" "[B") (.int 2)) (.int 116)).before #[Value.ref b] s = true := hs _ (by decide +kernel)
  have e3 : (Cond.eq (.elem (.field (.string RX4 59) "java/lang/String" "value" "[B") (.int 3)) (.int 102)).before #[Value.ref b] s = true := hs _ (by decide +kernel)
  have e4 : (Cond.eq (.elem (.field (.string RX4 59) "java/lang/String" "value" "[B") (.int 4)) (.int 104)).before #[Value.ref b] s = true := hs _ (by decide +kernel)
  obtain ⟨adK, adV, h1, h2⟩ := vk_Sof (args := #[Value.ref b]) (s := s) (N := 1) (tm := fun _ => (.string RX4 59)) (len := [5]) (byt := bySG) (A := fun q : Nat => s.heap.size ≤ q) (fun i hi => by
      obtain rfl : i = 0 := by omega
      decide) (fun _ _ => s1) (fun _ _ => s2) (fun _ _ => s3) (fun i hi => by
      obtain rfl : i = 0 := by omega
      exact s4) (fun i hi j hj => by
      obtain rfl : i = 0 := by omega
      have hj : j < 5 := hj
      rcases (show j = 0 ∨ j = 1 ∨ j = 2 ∨ j = 3 ∨ j = 4 by omega) with rfl | rfl | rfl | rfl | rfl
      · exact e0
      · exact e1
      · exact e2
      · exact e3
      · exact e4) (fun i j hi hj hij => absurd (show i = j by omega) hij) hA
  have s5 : (Cond.eq (.static "java/lang/String" "COMPACT_STRINGS" "Z") (.int 1)).before #[Value.ref b] s = true := hs _ (by decide +kernel)
  exact ⟨adK 0, adV 0, vk_R.of (A := #[Value.ref b]) (hts (.stringRef RX4 59 "cstfh") (by decide +kernel)) (h2 0 (by decide)), vk_Sc h1, va_Zof (hts (.laysStatic "java/lang/String" "COMPACT_STRINGS" "Z") (by decide +kernel)) (hts (.initialized "java/lang/String") (by decide +kernel)) (va_eqt s5) hA⟩
theorem law_ctx {p : Program} {s : State} {m : MethodId} {meth : Method} {c : Code} {b L : Nat} {xs : Nat → Int32} (C0 : lw_At p s m meth c b L xs) : ∃ (D : va_G) (cy : Nat → ClassId), sx D cy (fun q : Nat => s.heap.size ≤ q) s := by
  have z1 := lc_fTK C0
  have z2 := lc_fRG C0
  have z3 := lc_fKK C0
  have z4 := lc_fKC C0
  obtain ⟨aK, aV, y1, y2, y3⟩ := lc_sg C0
  obtain ⟨-, -, -, -, -, hts, -, -, -, -⟩ := C0
  obtain ⟨c0, i0, hK0⟩ := u_known (C := RX0) (T := TX0) (N := 3) (n := 3) hts inX0 (hts (.instantiable RX0 3) (by decide +kernel))
  obtain ⟨c1, i1, hK1⟩ := u_known (C := RX1) (T := TX1) (N := 9) (n := 9) hts inX1 (hts (.instantiable RX1 9) (by decide +kernel))
  obtain ⟨c2, i2, hK2⟩ := u_known (C := RX2) (T := TX2) (N := 4) (n := 4) hts inX2 (hts (.instantiable RX2 4) (by decide +kernel))
  obtain ⟨c3, i3, hK3⟩ := u_known (C := RX3) (T := TX3) (N := 4) (n := 4) hts inX3 (hts (.instantiable RX3 4) (by decide +kernel))
  obtain ⟨c4, i4, hK4⟩ := u_known (C := RX4) (T := TX4) (N := 9) (n := 9) hts inX4 (hts (.instantiable RX4 9) (by decide +kernel))
  obtain ⟨c5, i5, hK5⟩ := u_known (C := RX5) (T := TX5) (N := 30) (n := 30) hts inX5 (hts (.instantiable RX5 30) (by decide +kernel))
  obtain ⟨a0, k0, p0, f0, g0, h0⟩ := Cond.arrayClass_spec (hts (.arrayClass .int) (by decide +kernel))
  obtain ⟨a1, k1, p1, f1, g1, h1⟩ := Cond.arrayClass_spec (hts (.arrayClass .byte) (by decide +kernel))
  have o2 := hts (.arrayOver (.object RX0)) (by decide +kernel)
  have o3 := hts (.arrayOver (.object RX3)) (by decide +kernel)
  have o4 := hts (.arrayOver (.array .int)) (by decide +kernel)
  obtain ⟨p2, a2, k2, f2, -, g2, h2, e2⟩ := Cond.arrayOver_spec o2
  obtain ⟨p3, a3, k3, f3, -, g3, h3, e3⟩ := Cond.arrayOver_spec o3
  obtain ⟨p4, a4, k4, f4, -, g4, h4, e4⟩ := my_spec o4
  refine ⟨(fun k => if k = 0 then c0 else if k = 1 then c1 else if k = 2 then c2 else if k = 3 then c3 else if k = 4 then c4 else c5, fun k => if k = 0 then i0 else if k = 1 then i1 else if k = 2 then i2 else if k = 3 then i3 else if k = 4 then i4 else if k = 5 then i5 else (fun j => if j = 0 then aK else aV)), fun k => if k = 0 then a0 else if k = 1 then a1 else if k = 2 then a2 else if k = 3 then a3 else a4, ⟨?_, ?_⟩, ⟨z1, z2, z3, z4, y1, y2, y3⟩, ⟨?_, ?_, ?_, ?_, ?_, ?_⟩, o2, o3, my_alike (Vm.Alike.refl s.vm) o4⟩
  · intro k q hq
    match k, hq with
    | 0, hq => cases hq; exact hK0
    | 1, hq => cases hq; exact hK1
    | 2, hq => cases hq; exact hK2
    | 3, hq => cases hq; exact hK3
    | 4, hq => cases hq; exact hK4
    | 5, hq => cases hq; exact hK5
    | k + 6, hq => simp [vwCl] at hq
  · intro k q hq
    match k, hq with
    | 0, hq => cases hq; exact ⟨fun N z => ⟨(fun k h => by cases h), k0, g0, p0, h0⟩, f0⟩
    | 1, hq => cases hq; exact ⟨fun N z => ⟨(fun k h => by cases h), k1, g1, p1, h1⟩, f1⟩
    | 2, hq => cases hq; exact ⟨fun N z => ⟨(fun k h => by cases h), k2, g2, p2, h2⟩, k2, p2, g2, h2, f2, e2⟩
    | 3, hq => cases hq; exact ⟨fun N z => ⟨(fun k h => by cases h), k3, g3, p3, h3⟩, k3, p3, g3, h3, f3, e3⟩
    | 4, hq => cases hq; exact ⟨fun N z => ⟨(fun k h => by cases h), k4, g4, p4, h4⟩, e4⟩
    | k + 5, hq => simp at hq
  · exact va_Nw.of rfl (hts (.methodLinkNest RX4 15 yX2_init "CubeTower") (by decide +kernel))
  · exact va_Nw.of rfl (hts (.methodLinkNest RX2 11 yX0_init "CubeTower") (by decide +kernel))
  · exact va_Nw.of rfl (hts (.methodLinkNest RX4 28 yX1_init "CubeTower") (by decide +kernel))
  · exact va_Nw.of rfl (hts (.methodLinkNest RX3 25 yX4_canTurn "CubeTower") (by decide +kernel))
  · exact va_Nw.of rfl (hts (.methodLinkNest RX3 39 yX4_turnRow "CubeTower") (by decide +kernel))
  · exact va_Nw.of rfl (hts (.methodLinkNest RX0 22 yX4_turnRow "CubeTower") (by decide +kernel))
