theorem wn0 {r v lo hi : Int32} (h : r = (if ¬ v < lo ∧ ¬ hi < v then 1 else 0)) (h0 : r = 0) : v < lo ∨ ¬ v ≤ hi := by
  by_cases q : ¬ v < lo ∧ ¬ hi < v
  · rw [if_pos q] at h
    rw [h] at h0
    exact absurd h0 (by decide)
  · by_cases q1 : v < lo
    · exact Or.inl q1
    · exact Or.inr (fun q2 => q ⟨q1, Int32.not_lt.mpr q2⟩)
theorem wn1 {r v lo hi : Int32} (h : r = (if ¬ v < lo ∧ ¬ hi < v then 1 else 0)) (h0 : ¬ r = 0) : ¬ (v < lo ∨ ¬ v ≤ hi) := by
  by_cases q : ¬ v < lo ∧ ¬ hi < v
  · exact fun z => z.elim q.1 (fun z => z (Int32.not_lt.mp q.2))
  · rw [if_neg q] at h
    exact absurd h h0
theorem m1lt {c : Int32} (h : ¬ c < 0) : -1 < c := by
  have h1 := Int32.le_iff_toInt_le.mp (Int32.not_lt.mp h)
  refine Int32.lt_iff_toInt_lt.mpr ?_
  have e0 : (0 : Int32).toInt = 0 := by decide
  have e1 : (-1 : Int32).toInt = -1 := by decide
  rw [e0] at h1
  rw [e1]
  omega
theorem w_m1 {c : Int32} : (if ¬ c < 0 ∧ ¬ (-1 : Int32) < c then (1 : Int32) else 0) = 0 := if_neg (fun h => h.2 (m1lt h.1))
def q_X5_init (cy : Nat → ClassId) (m0 : Nat) : va_W → Prop := fun (u : va_W) => ∃ (kO : Nat), ∃ (lO : Nat), ∃ (sC : Nat), ∃ (sW : Nat), ∃ (sD : Nat), ∃ (pG : Nat), ∃ (wO : Nat), ∃ (fO : Nat), ∃ (mO : Nat), ∃ (cO : Nat), ∃ (th : Nat), ∃ (kK : Nat), ∃ (kL : Nat), ∃ (kC : Nat), ∃ (kW : Nat), ∃ (kD : Nat), u = [(m0, .inr (5, [.int 0, .int 0, .ref kO, .ref lO, .int 0, .int 0, .int 0, .ref sC, .ref sW, .ref sD, .int 0, .ref pG, .int 0, .int 0, .ref wO, .ref fO, .ref mO, .ref cO, .long 0, .ref th, .int 0, .int 0, .int 0, .int 0, .ref kK, .ref kL, .ref kC, .ref kW, .ref kD, .long 0])), (kO, .inl (cy 0, 3, .inl (fun _ => 0))), (lO, .inl (cy 0, 3, .inl (fun _ => 0))), (sC, .inl (cy 0, 6, .inl (fun _ => 0))), (sW, .inl (cy 0, 6, .inl (fun _ => 0))), (sD, .inl (cy 0, 6, .inl (fun _ => 0))), (pG, .inl (cy 1, 26, .inl (fun _ => 0))), (wO, .inl (cy 0, 72, .inl (fun _ => 0))), (fO, .inl (cy 0, 72, .inl (fun _ => 0))), (mO, .inl (cy 0, 3, .inl (fun _ => 0))), (cO, .inl (cy 0, 72, .inl (fun _ => 0))), (th, .inl (cy 0, 3, .inl (fun _ => 0))), (kK, .inl (cy 0, 3, .inl (fun _ => 0))), (kL, .inl (cy 0, 3, .inl (fun _ => 0))), (kC, .inl (cy 0, 6, .inl (fun _ => 0))), (kW, .inl (cy 0, 6, .inl (fun _ => 0))), (kD, .inl (cy 0, 6, .inl (fun _ => 0)))]
set_option maxHeartbeats 4000000 in
set_option maxRecDepth 100000 in
theorem c_X5_init (l : Launch) (D : va_G) (cy : Nat → ClassId) (zz : Nat) (m0 : Nat) : Met l yX5_init wsX5_init ({ frames := 1, cells := 16, slots := 296, locals := 24 } : Room) (va_Pc [.ref m0] (cpre D cy [(m0, .inr (5, [.int 0, .int 0, .null, .null, .int 0, .int 0, .int 0, .null, .null, .null, .int 0, .null, .int 0, .int 0, .null, .null, .null, .null, .long 0, .null, .int 0, .int 0, .int 0, .int 0, .null, .null, .null, .null, .null, .long 0]))] zz)) (va_Qv (q_X5_init cy m0) (cpost D (va_A [(m0, .inr (5, [.int 0, .int 0, .null, .null, .int 0, .int 0, .int 0, .null, .null, .null, .int 0, .null, .int 0, .int 0, .null, .null, .null, .null, .long 0, .null, .int 0, .int 0, .int 0, .int 0, .null, .null, .null, .null, .null, .long 0]))] zz)) (va_A [(m0, .inr (5, [.int 0, .int 0, .null, .null, .int 0, .int 0, .int 0, .null, .null, .null, .int 0, .null, .int 0, .int 0, .null, .null, .null, .null, .long 0, .null, .int 0, .int 0, .int 0, .int 0, .null, .null, .null, .null, .null, .long 0]))] zz)) 16 296 (va_A [(m0, .inr (5, [.int 0, .int 0, .null, .null, .int 0, .int 0, .int 0, .null, .null, .null, .int 0, .null, .int 0, .int 0, .null, .null, .null, .null, .long 0, .null, .int 0, .int 0, .int 0, .int 0, .null, .null, .null, .null, .null, .long 0]))] zz) := by
  refine Met.ofW (cc := cX5_init) (maxL := 1) (ret := none) (by decide) rfl ?_
  intro p e s m args below meth c s₁ B hml hv
  obtain ⟨rfl, hsz, hP, hD0, hX⟩ := hv
  have hx := B.exec
  have hb := B.bytes
  have hr := B.returns
  have hts := atoms_spec (ws := wsX5_init) B.pre
  have hown : s.vm.findClass RX5 = some m.cls := findClass_of_methodNamed B.named
  have hlocks := B.notSynchronized
  have hin : meth.name = "<init>" := (name_of_methodNamed B.named B.method).1
  subst hsz
  have hD := hD0.self (sz := s.heap.size)
  generalize hAe : va_A [(m0, .inr (5, [.int 0, .int 0, .null, .null, .int 0, .int 0, .int 0, .null, .null, .null, .int 0, .null, .int 0, .int 0, .null, .null, .null, .null, .long 0, .null, .int 0, .int 0, .int 0, .int 0, .null, .null, .null, .null, .null, .long 0]))] s.heap.size = A at hD hX ⊢
  have hA : ∀ q : Nat, s.heap.size ≤ q → A q := fun q h => by rw [← hAe]; exact Or.inr h
  obtain ⟨H, hH⟩ : ∃ H : Heap, H = s.heap := ⟨_, rfl⟩
  have hS : va_S A s.heap H [] := hH ▸ va_S.rf
  have hK := hX.1
  have hP : va_P D vwCl [(m0, .inr (5, [.int 0, .int 0, .null, .null, .int 0, .int 0, .int 0, .null, .null, .null, .int 0, .null, .int 0, .int 0, .null, .null, .null, .null, .long 0, .null, .int 0, .int 0, .int 0, .int 0, .null, .null, .null, .null, .null, .long 0]))] H := hH ▸ hP
  rw [← hH]
  have hw_X5 : ∀ w ∈ wsX50, w ∈ wsX5_init := by decide +kernel
  have m_1 := hts (.methodLink RX5 1 objectInit) (by decide +kernel)
  have oi_i := hts (.instanceMethod objectInit) (by decide +kernel)
  have oi_c := hts (.code objectInit ⟨#[0xb1]⟩ 1 none) (by decide +kernel)
  have ac_I := hts (.arrayClass .int) (by decide +kernel)
  have f_7 := hts (.fieldLink RX5 7 "CubeTowerModel" "kindOf" "[I") (by decide +kernel)
  have f_13 := hts (.fieldLink RX5 13 "CubeTowerModel" "lies" "[I") (by decide +kernel)
  have f_16 := hts (.fieldLink RX5 16 "CubeTowerModel" "seenCube" "[I") (by decide +kernel)
  have f_19 := hts (.fieldLink RX5 19 "CubeTowerModel" "seenWhat" "[I") (by decide +kernel)
  have f_22 := hts (.fieldLink RX5 22 "CubeTowerModel" "seenCould" "[I") (by decide +kernel)
  have ac_B := hts (.arrayClass .byte) (by decide +kernel)
  have f_25 := hts (.fieldLink RX5 25 "CubeTowerModel" "page" "[B") (by decide +kernel)
  have f_29 := hts (.fieldLink RX5 29 "CubeTowerModel" "wayOf" "[I") (by decide +kernel)
  have f_32 := hts (.fieldLink RX5 32 "CubeTowerModel" "farOf" "[I") (by decide +kernel)
  have f_35 := hts (.fieldLink RX5 35 "CubeTowerModel" "manyOf" "[I") (by decide +kernel)
  have f_38 := hts (.fieldLink RX5 38 "CubeTowerModel" "colourOf" "[I") (by decide +kernel)
  have f_41 := hts (.fieldLink RX5 41 "CubeTowerModel" "thought" "[I") (by decide +kernel)
  have f_44 := hts (.fieldLink RX5 44 "CubeTowerModel" "keptKind" "[I") (by decide +kernel)
  have f_47 := hts (.fieldLink RX5 47 "CubeTowerModel" "keptLies" "[I") (by decide +kernel)
  have f_50 := hts (.fieldLink RX5 50 "CubeTowerModel" "keptCube" "[I") (by decide +kernel)
  have f_53 := hts (.fieldLink RX5 53 "CubeTowerModel" "keptWhat" "[I") (by decide +kernel)
  have f_56 := hts (.fieldLink RX5 56 "CubeTowerModel" "keptCould" "[I") (by decide +kernel)
  have hl := lv_entry ([.ref m0]) (n := 1) (Nat.le_of_ble_eq_true rfl)
  rw [lg_entry_eq]
  generalize (lg_sl ([.ref m0]) ++ List.replicate (1 - (lg_sl ([.ref m0])).length) Slot.unset).toArray = ls at hl ⊢
  have hl : lv_has ls 1 [(0, .ref m0)] := hl
  refine lv_aload_n hx hb dX5_init_0 rfl (lv_at hl 0 rfl) ?_
  refine W.objInit hx hb hown m_1 oi_i oi_c rfl (by rw [hml]; exact hl.1) rfl dX5_init_1 (Nat.le_of_ble_eq_true rfl) (Nat.le_of_ble_eq_true rfl) ?_
  refine W.eq (g2 := F0 m 4 ls []) rfl ?_
  refine lv_aload_n hx hb dX5_init_4 rfl (lv_at hl 0 rfl) ?_
  refine lv_iconst (v := 3) hx hb dX5_init_5 (by decide) ?_
  refine nw_i (N' := 3) hx hb hX ac_I hP hD hS hA (by decide) (by decide) (by decide) (Nat.le_of_ble_eq_true rfl) (Nat.le_of_ble_eq_true rfl) dX5_init_6 (fun q1 H hP hD hS => ?_)
  refine W.widen (k := 1) (n := 3) (Nat.le_of_ble_eq_true rfl) (Nat.le_of_ble_eq_true rfl) ?_
  have hP : va_P D vwCl [(m0, .inr (5, [.int 0, .int 0, .null, .null, .int 0, .int 0, .int 0, .null, .null, .null, .int 0, .null, .int 0, .int 0, .null, .null, .null, .null, .long 0, .null, .int 0, .int 0, .int 0, .int 0, .null, .null, .null, .null, .null, .long 0])), (q1, .inl (cy 0, 3, .inl (fun _ => 0)))] H := hP
  have hD : va_D A [(m0, .inr (5, [.int 0, .int 0, .null, .null, .int 0, .int 0, .int 0, .null, .null, .null, .int 0, .null, .int 0, .int 0, .null, .null, .null, .null, .long 0, .null, .int 0, .int 0, .int 0, .int 0, .null, .null, .null, .null, .null, .long 0])), (q1, .inl (cy 0, 3, .inl (fun _ => 0)))] := hD
  refine va_putF (D := D) (ci := 5) (v := .ref q1) (ty := (.array .int)) (C := RX5) (T := TX5) (N := 30) hx hb hts hw_X5 tyX5 tyX5_ok nmX5 hown hK hP hD hS 0 rfl rfl 2 (by decide) f_7 (fun _ h9 => h9) rfl hin rfl (by decide +kernel) rfl rfl (Nat.le_of_ble_eq_true rfl) dX5_init_8 (fun H locs hP hD hS => ?_)
  have hP : va_P D vwCl [(m0, .inr (5, [.int 0, .int 0, .ref q1, .null, .int 0, .int 0, .int 0, .null, .null, .null, .int 0, .null, .int 0, .int 0, .null, .null, .null, .null, .long 0, .null, .int 0, .int 0, .int 0, .int 0, .null, .null, .null, .null, .null, .long 0])), (q1, .inl (cy 0, 3, .inl (fun _ => 0)))] H := hP
  have hD : va_D A [(m0, .inr (5, [.int 0, .int 0, .ref q1, .null, .int 0, .int 0, .int 0, .null, .null, .null, .int 0, .null, .int 0, .int 0, .null, .null, .null, .null, .long 0, .null, .int 0, .int 0, .int 0, .int 0, .null, .null, .null, .null, .null, .long 0])), (q1, .inl (cy 0, 3, .inl (fun _ => 0)))] := hD
  refine lv_aload_n hx hb dX5_init_11 rfl (lv_at hl 0 rfl) ?_
  refine lv_iconst (v := 3) hx hb dX5_init_12 (by decide) ?_
  refine nw_i (N' := 3) hx hb hX ac_I hP hD hS hA (by decide) (by decide) (by decide) (Nat.le_of_ble_eq_true rfl) (Nat.le_of_ble_eq_true rfl) dX5_init_13 (fun q2 H hP hD hS => ?_)
  refine W.widen (k := 2) (n := 6) (Nat.le_of_ble_eq_true rfl) (Nat.le_of_ble_eq_true rfl) ?_
  have hP : va_P D vwCl [(m0, .inr (5, [.int 0, .int 0, .ref q1, .null, .int 0, .int 0, .int 0, .null, .null, .null, .int 0, .null, .int 0, .int 0, .null, .null, .null, .null, .long 0, .null, .int 0, .int 0, .int 0, .int 0, .null, .null, .null, .null, .null, .long 0])), (q1, .inl (cy 0, 3, .inl (fun _ => 0))), (q2, .inl (cy 0, 3, .inl (fun _ => 0)))] H := hP
  have hD : va_D A [(m0, .inr (5, [.int 0, .int 0, .ref q1, .null, .int 0, .int 0, .int 0, .null, .null, .null, .int 0, .null, .int 0, .int 0, .null, .null, .null, .null, .long 0, .null, .int 0, .int 0, .int 0, .int 0, .null, .null, .null, .null, .null, .long 0])), (q1, .inl (cy 0, 3, .inl (fun _ => 0))), (q2, .inl (cy 0, 3, .inl (fun _ => 0)))] := hD
  refine va_putF (D := D) (ci := 5) (v := .ref q2) (ty := (.array .int)) (C := RX5) (T := TX5) (N := 30) hx hb hts hw_X5 tyX5 tyX5_ok nmX5 hown hK hP hD hS 0 rfl rfl 3 (by decide) f_13 (fun _ h9 => h9) rfl hin rfl (by decide +kernel) rfl rfl (Nat.le_of_ble_eq_true rfl) dX5_init_15 (fun H locs hP hD hS => ?_)
  have hP : va_P D vwCl [(m0, .inr (5, [.int 0, .int 0, .ref q1, .ref q2, .int 0, .int 0, .int 0, .null, .null, .null, .int 0, .null, .int 0, .int 0, .null, .null, .null, .null, .long 0, .null, .int 0, .int 0, .int 0, .int 0, .null, .null, .null, .null, .null, .long 0])), (q1, .inl (cy 0, 3, .inl (fun _ => 0))), (q2, .inl (cy 0, 3, .inl (fun _ => 0)))] H := hP
  have hD : va_D A [(m0, .inr (5, [.int 0, .int 0, .ref q1, .ref q2, .int 0, .int 0, .int 0, .null, .null, .null, .int 0, .null, .int 0, .int 0, .null, .null, .null, .null, .long 0, .null, .int 0, .int 0, .int 0, .int 0, .null, .null, .null, .null, .null, .long 0])), (q1, .inl (cy 0, 3, .inl (fun _ => 0))), (q2, .inl (cy 0, 3, .inl (fun _ => 0)))] := hD
  refine lv_aload_n hx hb dX5_init_18 rfl (lv_at hl 0 rfl) ?_
  refine lv_bipush (v := 6) hx hb dX5_init_19 (by decide) ?_
  refine nw_i (N' := 6) hx hb hX ac_I hP hD hS hA (by decide) (by decide) (by decide) (Nat.le_of_ble_eq_true rfl) (Nat.le_of_ble_eq_true rfl) dX5_init_21 (fun q3 H hP hD hS => ?_)
  refine W.widen (k := 3) (n := 12) (Nat.le_of_ble_eq_true rfl) (Nat.le_of_ble_eq_true rfl) ?_
  have hP : va_P D vwCl [(m0, .inr (5, [.int 0, .int 0, .ref q1, .ref q2, .int 0, .int 0, .int 0, .null, .null, .null, .int 0, .null, .int 0, .int 0, .null, .null, .null, .null, .long 0, .null, .int 0, .int 0, .int 0, .int 0, .null, .null, .null, .null, .null, .long 0])), (q1, .inl (cy 0, 3, .inl (fun _ => 0))), (q2, .inl (cy 0, 3, .inl (fun _ => 0))), (q3, .inl (cy 0, 6, .inl (fun _ => 0)))] H := hP
  have hD : va_D A [(m0, .inr (5, [.int 0, .int 0, .ref q1, .ref q2, .int 0, .int 0, .int 0, .null, .null, .null, .int 0, .null, .int 0, .int 0, .null, .null, .null, .null, .long 0, .null, .int 0, .int 0, .int 0, .int 0, .null, .null, .null, .null, .null, .long 0])), (q1, .inl (cy 0, 3, .inl (fun _ => 0))), (q2, .inl (cy 0, 3, .inl (fun _ => 0))), (q3, .inl (cy 0, 6, .inl (fun _ => 0)))] := hD
  refine va_putF (D := D) (ci := 5) (v := .ref q3) (ty := (.array .int)) (C := RX5) (T := TX5) (N := 30) hx hb hts hw_X5 tyX5 tyX5_ok nmX5 hown hK hP hD hS 0 rfl rfl 7 (by decide) f_16 (fun _ h9 => h9) rfl hin rfl (by decide +kernel) rfl rfl (Nat.le_of_ble_eq_true rfl) dX5_init_23 (fun H locs hP hD hS => ?_)
  have hP : va_P D vwCl [(m0, .inr (5, [.int 0, .int 0, .ref q1, .ref q2, .int 0, .int 0, .int 0, .ref q3, .null, .null, .int 0, .null, .int 0, .int 0, .null, .null, .null, .null, .long 0, .null, .int 0, .int 0, .int 0, .int 0, .null, .null, .null, .null, .null, .long 0])), (q1, .inl (cy 0, 3, .inl (fun _ => 0))), (q2, .inl (cy 0, 3, .inl (fun _ => 0))), (q3, .inl (cy 0, 6, .inl (fun _ => 0)))] H := hP
  have hD : va_D A [(m0, .inr (5, [.int 0, .int 0, .ref q1, .ref q2, .int 0, .int 0, .int 0, .ref q3, .null, .null, .int 0, .null, .int 0, .int 0, .null, .null, .null, .null, .long 0, .null, .int 0, .int 0, .int 0, .int 0, .null, .null, .null, .null, .null, .long 0])), (q1, .inl (cy 0, 3, .inl (fun _ => 0))), (q2, .inl (cy 0, 3, .inl (fun _ => 0))), (q3, .inl (cy 0, 6, .inl (fun _ => 0)))] := hD
  refine lv_aload_n hx hb dX5_init_26 rfl (lv_at hl 0 rfl) ?_
  refine lv_bipush (v := 6) hx hb dX5_init_27 (by decide) ?_
  refine nw_i (N' := 6) hx hb hX ac_I hP hD hS hA (by decide) (by decide) (by decide) (Nat.le_of_ble_eq_true rfl) (Nat.le_of_ble_eq_true rfl) dX5_init_29 (fun q4 H hP hD hS => ?_)
  refine W.widen (k := 4) (n := 18) (Nat.le_of_ble_eq_true rfl) (Nat.le_of_ble_eq_true rfl) ?_
  have hP : va_P D vwCl [(m0, .inr (5, [.int 0, .int 0, .ref q1, .ref q2, .int 0, .int 0, .int 0, .ref q3, .null, .null, .int 0, .null, .int 0, .int 0, .null, .null, .null, .null, .long 0, .null, .int 0, .int 0, .int 0, .int 0, .null, .null, .null, .null, .null, .long 0])), (q1, .inl (cy 0, 3, .inl (fun _ => 0))), (q2, .inl (cy 0, 3, .inl (fun _ => 0))), (q3, .inl (cy 0, 6, .inl (fun _ => 0))), (q4, .inl (cy 0, 6, .inl (fun _ => 0)))] H := hP
  have hD : va_D A [(m0, .inr (5, [.int 0, .int 0, .ref q1, .ref q2, .int 0, .int 0, .int 0, .ref q3, .null, .null, .int 0, .null, .int 0, .int 0, .null, .null, .null, .null, .long 0, .null, .int 0, .int 0, .int 0, .int 0, .null, .null, .null, .null, .null, .long 0])), (q1, .inl (cy 0, 3, .inl (fun _ => 0))), (q2, .inl (cy 0, 3, .inl (fun _ => 0))), (q3, .inl (cy 0, 6, .inl (fun _ => 0))), (q4, .inl (cy 0, 6, .inl (fun _ => 0)))] := hD
  refine va_putF (D := D) (ci := 5) (v := .ref q4) (ty := (.array .int)) (C := RX5) (T := TX5) (N := 30) hx hb hts hw_X5 tyX5 tyX5_ok nmX5 hown hK hP hD hS 0 rfl rfl 8 (by decide) f_19 (fun _ h9 => h9) rfl hin rfl (by decide +kernel) rfl rfl (Nat.le_of_ble_eq_true rfl) dX5_init_31 (fun H locs hP hD hS => ?_)
  have hP : va_P D vwCl [(m0, .inr (5, [.int 0, .int 0, .ref q1, .ref q2, .int 0, .int 0, .int 0, .ref q3, .ref q4, .null, .int 0, .null, .int 0, .int 0, .null, .null, .null, .null, .long 0, .null, .int 0, .int 0, .int 0, .int 0, .null, .null, .null, .null, .null, .long 0])), (q1, .inl (cy 0, 3, .inl (fun _ => 0))), (q2, .inl (cy 0, 3, .inl (fun _ => 0))), (q3, .inl (cy 0, 6, .inl (fun _ => 0))), (q4, .inl (cy 0, 6, .inl (fun _ => 0)))] H := hP
  have hD : va_D A [(m0, .inr (5, [.int 0, .int 0, .ref q1, .ref q2, .int 0, .int 0, .int 0, .ref q3, .ref q4, .null, .int 0, .null, .int 0, .int 0, .null, .null, .null, .null, .long 0, .null, .int 0, .int 0, .int 0, .int 0, .null, .null, .null, .null, .null, .long 0])), (q1, .inl (cy 0, 3, .inl (fun _ => 0))), (q2, .inl (cy 0, 3, .inl (fun _ => 0))), (q3, .inl (cy 0, 6, .inl (fun _ => 0))), (q4, .inl (cy 0, 6, .inl (fun _ => 0)))] := hD
  refine lv_aload_n hx hb dX5_init_34 rfl (lv_at hl 0 rfl) ?_
  refine lv_bipush (v := 6) hx hb dX5_init_35 (by decide) ?_
  refine nw_i (N' := 6) hx hb hX ac_I hP hD hS hA (by decide) (by decide) (by decide) (Nat.le_of_ble_eq_true rfl) (Nat.le_of_ble_eq_true rfl) dX5_init_37 (fun q5 H hP hD hS => ?_)
  refine W.widen (k := 5) (n := 24) (Nat.le_of_ble_eq_true rfl) (Nat.le_of_ble_eq_true rfl) ?_
  have hP : va_P D vwCl [(m0, .inr (5, [.int 0, .int 0, .ref q1, .ref q2, .int 0, .int 0, .int 0, .ref q3, .ref q4, .null, .int 0, .null, .int 0, .int 0, .null, .null, .null, .null, .long 0, .null, .int 0, .int 0, .int 0, .int 0, .null, .null, .null, .null, .null, .long 0])), (q1, .inl (cy 0, 3, .inl (fun _ => 0))), (q2, .inl (cy 0, 3, .inl (fun _ => 0))), (q3, .inl (cy 0, 6, .inl (fun _ => 0))), (q4, .inl (cy 0, 6, .inl (fun _ => 0))), (q5, .inl (cy 0, 6, .inl (fun _ => 0)))] H := hP
  have hD : va_D A [(m0, .inr (5, [.int 0, .int 0, .ref q1, .ref q2, .int 0, .int 0, .int 0, .ref q3, .ref q4, .null, .int 0, .null, .int 0, .int 0, .null, .null, .null, .null, .long 0, .null, .int 0, .int 0, .int 0, .int 0, .null, .null, .null, .null, .null, .long 0])), (q1, .inl (cy 0, 3, .inl (fun _ => 0))), (q2, .inl (cy 0, 3, .inl (fun _ => 0))), (q3, .inl (cy 0, 6, .inl (fun _ => 0))), (q4, .inl (cy 0, 6, .inl (fun _ => 0))), (q5, .inl (cy 0, 6, .inl (fun _ => 0)))] := hD
  refine va_putF (D := D) (ci := 5) (v := .ref q5) (ty := (.array .int)) (C := RX5) (T := TX5) (N := 30) hx hb hts hw_X5 tyX5 tyX5_ok nmX5 hown hK hP hD hS 0 rfl rfl 9 (by decide) f_22 (fun _ h9 => h9) rfl hin rfl (by decide +kernel) rfl rfl (Nat.le_of_ble_eq_true rfl) dX5_init_39 (fun H locs hP hD hS => ?_)
  have hP : va_P D vwCl [(m0, .inr (5, [.int 0, .int 0, .ref q1, .ref q2, .int 0, .int 0, .int 0, .ref q3, .ref q4, .ref q5, .int 0, .null, .int 0, .int 0, .null, .null, .null, .null, .long 0, .null, .int 0, .int 0, .int 0, .int 0, .null, .null, .null, .null, .null, .long 0])), (q1, .inl (cy 0, 3, .inl (fun _ => 0))), (q2, .inl (cy 0, 3, .inl (fun _ => 0))), (q3, .inl (cy 0, 6, .inl (fun _ => 0))), (q4, .inl (cy 0, 6, .inl (fun _ => 0))), (q5, .inl (cy 0, 6, .inl (fun _ => 0)))] H := hP
  have hD : va_D A [(m0, .inr (5, [.int 0, .int 0, .ref q1, .ref q2, .int 0, .int 0, .int 0, .ref q3, .ref q4, .ref q5, .int 0, .null, .int 0, .int 0, .null, .null, .null, .null, .long 0, .null, .int 0, .int 0, .int 0, .int 0, .null, .null, .null, .null, .null, .long 0])), (q1, .inl (cy 0, 3, .inl (fun _ => 0))), (q2, .inl (cy 0, 3, .inl (fun _ => 0))), (q3, .inl (cy 0, 6, .inl (fun _ => 0))), (q4, .inl (cy 0, 6, .inl (fun _ => 0))), (q5, .inl (cy 0, 6, .inl (fun _ => 0)))] := hD
  refine lv_aload_n hx hb dX5_init_42 rfl (lv_at hl 0 rfl) ?_
  refine lv_bipush (v := 26) hx hb dX5_init_43 (by decide) ?_
  refine nw_b (N' := 26) hx hb hX ac_B hP hD hS hA (by decide) (by decide) (by decide) (Nat.le_of_ble_eq_true rfl) (Nat.le_of_ble_eq_true rfl) dX5_init_45 (fun q6 H hP hD hS => ?_)
  refine W.widen (k := 6) (n := 50) (Nat.le_of_ble_eq_true rfl) (Nat.le_of_ble_eq_true rfl) ?_
  have hP : va_P D vwCl [(m0, .inr (5, [.int 0, .int 0, .ref q1, .ref q2, .int 0, .int 0, .int 0, .ref q3, .ref q4, .ref q5, .int 0, .null, .int 0, .int 0, .null, .null, .null, .null, .long 0, .null, .int 0, .int 0, .int 0, .int 0, .null, .null, .null, .null, .null, .long 0])), (q1, .inl (cy 0, 3, .inl (fun _ => 0))), (q2, .inl (cy 0, 3, .inl (fun _ => 0))), (q3, .inl (cy 0, 6, .inl (fun _ => 0))), (q4, .inl (cy 0, 6, .inl (fun _ => 0))), (q5, .inl (cy 0, 6, .inl (fun _ => 0))), (q6, .inl (cy 1, 26, .inl (fun _ => 0)))] H := hP
  have hD : va_D A [(m0, .inr (5, [.int 0, .int 0, .ref q1, .ref q2, .int 0, .int 0, .int 0, .ref q3, .ref q4, .ref q5, .int 0, .null, .int 0, .int 0, .null, .null, .null, .null, .long 0, .null, .int 0, .int 0, .int 0, .int 0, .null, .null, .null, .null, .null, .long 0])), (q1, .inl (cy 0, 3, .inl (fun _ => 0))), (q2, .inl (cy 0, 3, .inl (fun _ => 0))), (q3, .inl (cy 0, 6, .inl (fun _ => 0))), (q4, .inl (cy 0, 6, .inl (fun _ => 0))), (q5, .inl (cy 0, 6, .inl (fun _ => 0))), (q6, .inl (cy 1, 26, .inl (fun _ => 0)))] := hD
  refine va_putF (D := D) (ci := 5) (v := .ref q6) (ty := (.array .byte)) (C := RX5) (T := TX5) (N := 30) hx hb hts hw_X5 tyX5 tyX5_ok nmX5 hown hK hP hD hS 0 rfl rfl 11 (by decide) f_25 (fun _ h9 => h9) rfl hin rfl (by decide +kernel) rfl rfl (Nat.le_of_ble_eq_true rfl) dX5_init_47 (fun H locs hP hD hS => ?_)
  have hP : va_P D vwCl [(m0, .inr (5, [.int 0, .int 0, .ref q1, .ref q2, .int 0, .int 0, .int 0, .ref q3, .ref q4, .ref q5, .int 0, .ref q6, .int 0, .int 0, .null, .null, .null, .null, .long 0, .null, .int 0, .int 0, .int 0, .int 0, .null, .null, .null, .null, .null, .long 0])), (q1, .inl (cy 0, 3, .inl (fun _ => 0))), (q2, .inl (cy 0, 3, .inl (fun _ => 0))), (q3, .inl (cy 0, 6, .inl (fun _ => 0))), (q4, .inl (cy 0, 6, .inl (fun _ => 0))), (q5, .inl (cy 0, 6, .inl (fun _ => 0))), (q6, .inl (cy 1, 26, .inl (fun _ => 0)))] H := hP
  have hD : va_D A [(m0, .inr (5, [.int 0, .int 0, .ref q1, .ref q2, .int 0, .int 0, .int 0, .ref q3, .ref q4, .ref q5, .int 0, .ref q6, .int 0, .int 0, .null, .null, .null, .null, .long 0, .null, .int 0, .int 0, .int 0, .int 0, .null, .null, .null, .null, .null, .long 0])), (q1, .inl (cy 0, 3, .inl (fun _ => 0))), (q2, .inl (cy 0, 3, .inl (fun _ => 0))), (q3, .inl (cy 0, 6, .inl (fun _ => 0))), (q4, .inl (cy 0, 6, .inl (fun _ => 0))), (q5, .inl (cy 0, 6, .inl (fun _ => 0))), (q6, .inl (cy 1, 26, .inl (fun _ => 0)))] := hD
  refine lv_aload_n hx hb dX5_init_50 rfl (lv_at hl 0 rfl) ?_
  refine lv_bipush (v := 72) hx hb dX5_init_51 (by decide) ?_
  refine nw_i (N' := 72) hx hb hX ac_I hP hD hS hA (by decide) (by decide) (by decide) (Nat.le_of_ble_eq_true rfl) (Nat.le_of_ble_eq_true rfl) dX5_init_53 (fun q7 H hP hD hS => ?_)
  refine W.widen (k := 7) (n := 122) (Nat.le_of_ble_eq_true rfl) (Nat.le_of_ble_eq_true rfl) ?_
  have hP : va_P D vwCl [(m0, .inr (5, [.int 0, .int 0, .ref q1, .ref q2, .int 0, .int 0, .int 0, .ref q3, .ref q4, .ref q5, .int 0, .ref q6, .int 0, .int 0, .null, .null, .null, .null, .long 0, .null, .int 0, .int 0, .int 0, .int 0, .null, .null, .null, .null, .null, .long 0])), (q1, .inl (cy 0, 3, .inl (fun _ => 0))), (q2, .inl (cy 0, 3, .inl (fun _ => 0))), (q3, .inl (cy 0, 6, .inl (fun _ => 0))), (q4, .inl (cy 0, 6, .inl (fun _ => 0))), (q5, .inl (cy 0, 6, .inl (fun _ => 0))), (q6, .inl (cy 1, 26, .inl (fun _ => 0))), (q7, .inl (cy 0, 72, .inl (fun _ => 0)))] H := hP
  have hD : va_D A [(m0, .inr (5, [.int 0, .int 0, .ref q1, .ref q2, .int 0, .int 0, .int 0, .ref q3, .ref q4, .ref q5, .int 0, .ref q6, .int 0, .int 0, .null, .null, .null, .null, .long 0, .null, .int 0, .int 0, .int 0, .int 0, .null, .null, .null, .null, .null, .long 0])), (q1, .inl (cy 0, 3, .inl (fun _ => 0))), (q2, .inl (cy 0, 3, .inl (fun _ => 0))), (q3, .inl (cy 0, 6, .inl (fun _ => 0))), (q4, .inl (cy 0, 6, .inl (fun _ => 0))), (q5, .inl (cy 0, 6, .inl (fun _ => 0))), (q6, .inl (cy 1, 26, .inl (fun _ => 0))), (q7, .inl (cy 0, 72, .inl (fun _ => 0)))] := hD
  refine va_putF (D := D) (ci := 5) (v := .ref q7) (ty := (.array .int)) (C := RX5) (T := TX5) (N := 30) hx hb hts hw_X5 tyX5 tyX5_ok nmX5 hown hK hP hD hS 0 rfl rfl 14 (by decide) f_29 (fun _ h9 => h9) rfl hin rfl (by decide +kernel) rfl rfl (Nat.le_of_ble_eq_true rfl) dX5_init_55 (fun H locs hP hD hS => ?_)
  have hP : va_P D vwCl [(m0, .inr (5, [.int 0, .int 0, .ref q1, .ref q2, .int 0, .int 0, .int 0, .ref q3, .ref q4, .ref q5, .int 0, .ref q6, .int 0, .int 0, .ref q7, .null, .null, .null, .long 0, .null, .int 0, .int 0, .int 0, .int 0, .null, .null, .null, .null, .null, .long 0])), (q1, .inl (cy 0, 3, .inl (fun _ => 0))), (q2, .inl (cy 0, 3, .inl (fun _ => 0))), (q3, .inl (cy 0, 6, .inl (fun _ => 0))), (q4, .inl (cy 0, 6, .inl (fun _ => 0))), (q5, .inl (cy 0, 6, .inl (fun _ => 0))), (q6, .inl (cy 1, 26, .inl (fun _ => 0))), (q7, .inl (cy 0, 72, .inl (fun _ => 0)))] H := hP
  have hD : va_D A [(m0, .inr (5, [.int 0, .int 0, .ref q1, .ref q2, .int 0, .int 0, .int 0, .ref q3, .ref q4, .ref q5, .int 0, .ref q6, .int 0, .int 0, .ref q7, .null, .null, .null, .long 0, .null, .int 0, .int 0, .int 0, .int 0, .null, .null, .null, .null, .null, .long 0])), (q1, .inl (cy 0, 3, .inl (fun _ => 0))), (q2, .inl (cy 0, 3, .inl (fun _ => 0))), (q3, .inl (cy 0, 6, .inl (fun _ => 0))), (q4, .inl (cy 0, 6, .inl (fun _ => 0))), (q5, .inl (cy 0, 6, .inl (fun _ => 0))), (q6, .inl (cy 1, 26, .inl (fun _ => 0))), (q7, .inl (cy 0, 72, .inl (fun _ => 0)))] := hD
  refine lv_aload_n hx hb dX5_init_58 rfl (lv_at hl 0 rfl) ?_
  refine lv_bipush (v := 72) hx hb dX5_init_59 (by decide) ?_
  refine nw_i (N' := 72) hx hb hX ac_I hP hD hS hA (by decide) (by decide) (by decide) (Nat.le_of_ble_eq_true rfl) (Nat.le_of_ble_eq_true rfl) dX5_init_61 (fun q8 H hP hD hS => ?_)
  refine W.widen (k := 8) (n := 194) (Nat.le_of_ble_eq_true rfl) (Nat.le_of_ble_eq_true rfl) ?_
  have hP : va_P D vwCl [(m0, .inr (5, [.int 0, .int 0, .ref q1, .ref q2, .int 0, .int 0, .int 0, .ref q3, .ref q4, .ref q5, .int 0, .ref q6, .int 0, .int 0, .ref q7, .null, .null, .null, .long 0, .null, .int 0, .int 0, .int 0, .int 0, .null, .null, .null, .null, .null, .long 0])), (q1, .inl (cy 0, 3, .inl (fun _ => 0))), (q2, .inl (cy 0, 3, .inl (fun _ => 0))), (q3, .inl (cy 0, 6, .inl (fun _ => 0))), (q4, .inl (cy 0, 6, .inl (fun _ => 0))), (q5, .inl (cy 0, 6, .inl (fun _ => 0))), (q6, .inl (cy 1, 26, .inl (fun _ => 0))), (q7, .inl (cy 0, 72, .inl (fun _ => 0))), (q8, .inl (cy 0, 72, .inl (fun _ => 0)))] H := hP
  have hD : va_D A [(m0, .inr (5, [.int 0, .int 0, .ref q1, .ref q2, .int 0, .int 0, .int 0, .ref q3, .ref q4, .ref q5, .int 0, .ref q6, .int 0, .int 0, .ref q7, .null, .null, .null, .long 0, .null, .int 0, .int 0, .int 0, .int 0, .null, .null, .null, .null, .null, .long 0])), (q1, .inl (cy 0, 3, .inl (fun _ => 0))), (q2, .inl (cy 0, 3, .inl (fun _ => 0))), (q3, .inl (cy 0, 6, .inl (fun _ => 0))), (q4, .inl (cy 0, 6, .inl (fun _ => 0))), (q5, .inl (cy 0, 6, .inl (fun _ => 0))), (q6, .inl (cy 1, 26, .inl (fun _ => 0))), (q7, .inl (cy 0, 72, .inl (fun _ => 0))), (q8, .inl (cy 0, 72, .inl (fun _ => 0)))] := hD
  refine va_putF (D := D) (ci := 5) (v := .ref q8) (ty := (.array .int)) (C := RX5) (T := TX5) (N := 30) hx hb hts hw_X5 tyX5 tyX5_ok nmX5 hown hK hP hD hS 0 rfl rfl 15 (by decide) f_32 (fun _ h9 => h9) rfl hin rfl (by decide +kernel) rfl rfl (Nat.le_of_ble_eq_true rfl) dX5_init_63 (fun H locs hP hD hS => ?_)
  have hP : va_P D vwCl [(m0, .inr (5, [.int 0, .int 0, .ref q1, .ref q2, .int 0, .int 0, .int 0, .ref q3, .ref q4, .ref q5, .int 0, .ref q6, .int 0, .int 0, .ref q7, .ref q8, .null, .null, .long 0, .null, .int 0, .int 0, .int 0, .int 0, .null, .null, .null, .null, .null, .long 0])), (q1, .inl (cy 0, 3, .inl (fun _ => 0))), (q2, .inl (cy 0, 3, .inl (fun _ => 0))), (q3, .inl (cy 0, 6, .inl (fun _ => 0))), (q4, .inl (cy 0, 6, .inl (fun _ => 0))), (q5, .inl (cy 0, 6, .inl (fun _ => 0))), (q6, .inl (cy 1, 26, .inl (fun _ => 0))), (q7, .inl (cy 0, 72, .inl (fun _ => 0))), (q8, .inl (cy 0, 72, .inl (fun _ => 0)))] H := hP
  have hD : va_D A [(m0, .inr (5, [.int 0, .int 0, .ref q1, .ref q2, .int 0, .int 0, .int 0, .ref q3, .ref q4, .ref q5, .int 0, .ref q6, .int 0, .int 0, .ref q7, .ref q8, .null, .null, .long 0, .null, .int 0, .int 0, .int 0, .int 0, .null, .null, .null, .null, .null, .long 0])), (q1, .inl (cy 0, 3, .inl (fun _ => 0))), (q2, .inl (cy 0, 3, .inl (fun _ => 0))), (q3, .inl (cy 0, 6, .inl (fun _ => 0))), (q4, .inl (cy 0, 6, .inl (fun _ => 0))), (q5, .inl (cy 0, 6, .inl (fun _ => 0))), (q6, .inl (cy 1, 26, .inl (fun _ => 0))), (q7, .inl (cy 0, 72, .inl (fun _ => 0))), (q8, .inl (cy 0, 72, .inl (fun _ => 0)))] := hD
  refine lv_aload_n hx hb dX5_init_66 rfl (lv_at hl 0 rfl) ?_
  refine lv_iconst (v := 3) hx hb dX5_init_67 (by decide) ?_
  refine nw_i (N' := 3) hx hb hX ac_I hP hD hS hA (by decide) (by decide) (by decide) (Nat.le_of_ble_eq_true rfl) (Nat.le_of_ble_eq_true rfl) dX5_init_68 (fun q9 H hP hD hS => ?_)
  refine W.widen (k := 9) (n := 197) (Nat.le_of_ble_eq_true rfl) (Nat.le_of_ble_eq_true rfl) ?_
  have hP : va_P D vwCl [(m0, .inr (5, [.int 0, .int 0, .ref q1, .ref q2, .int 0, .int 0, .int 0, .ref q3, .ref q4, .ref q5, .int 0, .ref q6, .int 0, .int 0, .ref q7, .ref q8, .null, .null, .long 0, .null, .int 0, .int 0, .int 0, .int 0, .null, .null, .null, .null, .null, .long 0])), (q1, .inl (cy 0, 3, .inl (fun _ => 0))), (q2, .inl (cy 0, 3, .inl (fun _ => 0))), (q3, .inl (cy 0, 6, .inl (fun _ => 0))), (q4, .inl (cy 0, 6, .inl (fun _ => 0))), (q5, .inl (cy 0, 6, .inl (fun _ => 0))), (q6, .inl (cy 1, 26, .inl (fun _ => 0))), (q7, .inl (cy 0, 72, .inl (fun _ => 0))), (q8, .inl (cy 0, 72, .inl (fun _ => 0))), (q9, .inl (cy 0, 3, .inl (fun _ => 0)))] H := hP
  have hD : va_D A [(m0, .inr (5, [.int 0, .int 0, .ref q1, .ref q2, .int 0, .int 0, .int 0, .ref q3, .ref q4, .ref q5, .int 0, .ref q6, .int 0, .int 0, .ref q7, .ref q8, .null, .null, .long 0, .null, .int 0, .int 0, .int 0, .int 0, .null, .null, .null, .null, .null, .long 0])), (q1, .inl (cy 0, 3, .inl (fun _ => 0))), (q2, .inl (cy 0, 3, .inl (fun _ => 0))), (q3, .inl (cy 0, 6, .inl (fun _ => 0))), (q4, .inl (cy 0, 6, .inl (fun _ => 0))), (q5, .inl (cy 0, 6, .inl (fun _ => 0))), (q6, .inl (cy 1, 26, .inl (fun _ => 0))), (q7, .inl (cy 0, 72, .inl (fun _ => 0))), (q8, .inl (cy 0, 72, .inl (fun _ => 0))), (q9, .inl (cy 0, 3, .inl (fun _ => 0)))] := hD
  refine va_putF (D := D) (ci := 5) (v := .ref q9) (ty := (.array .int)) (C := RX5) (T := TX5) (N := 30) hx hb hts hw_X5 tyX5 tyX5_ok nmX5 hown hK hP hD hS 0 rfl rfl 16 (by decide) f_35 (fun _ h9 => h9) rfl hin rfl (by decide +kernel) rfl rfl (Nat.le_of_ble_eq_true rfl) dX5_init_70 (fun H locs hP hD hS => ?_)
  have hP : va_P D vwCl [(m0, .inr (5, [.int 0, .int 0, .ref q1, .ref q2, .int 0, .int 0, .int 0, .ref q3, .ref q4, .ref q5, .int 0, .ref q6, .int 0, .int 0, .ref q7, .ref q8, .ref q9, .null, .long 0, .null, .int 0, .int 0, .int 0, .int 0, .null, .null, .null, .null, .null, .long 0])), (q1, .inl (cy 0, 3, .inl (fun _ => 0))), (q2, .inl (cy 0, 3, .inl (fun _ => 0))), (q3, .inl (cy 0, 6, .inl (fun _ => 0))), (q4, .inl (cy 0, 6, .inl (fun _ => 0))), (q5, .inl (cy 0, 6, .inl (fun _ => 0))), (q6, .inl (cy 1, 26, .inl (fun _ => 0))), (q7, .inl (cy 0, 72, .inl (fun _ => 0))), (q8, .inl (cy 0, 72, .inl (fun _ => 0))), (q9, .inl (cy 0, 3, .inl (fun _ => 0)))] H := hP
  have hD : va_D A [(m0, .inr (5, [.int 0, .int 0, .ref q1, .ref q2, .int 0, .int 0, .int 0, .ref q3, .ref q4, .ref q5, .int 0, .ref q6, .int 0, .int 0, .ref q7, .ref q8, .ref q9, .null, .long 0, .null, .int 0, .int 0, .int 0, .int 0, .null, .null, .null, .null, .null, .long 0])), (q1, .inl (cy 0, 3, .inl (fun _ => 0))), (q2, .inl (cy 0, 3, .inl (fun _ => 0))), (q3, .inl (cy 0, 6, .inl (fun _ => 0))), (q4, .inl (cy 0, 6, .inl (fun _ => 0))), (q5, .inl (cy 0, 6, .inl (fun _ => 0))), (q6, .inl (cy 1, 26, .inl (fun _ => 0))), (q7, .inl (cy 0, 72, .inl (fun _ => 0))), (q8, .inl (cy 0, 72, .inl (fun _ => 0))), (q9, .inl (cy 0, 3, .inl (fun _ => 0)))] := hD
  refine lv_aload_n hx hb dX5_init_73 rfl (lv_at hl 0 rfl) ?_
  refine lv_bipush (v := 72) hx hb dX5_init_74 (by decide) ?_
  refine nw_i (N' := 72) hx hb hX ac_I hP hD hS hA (by decide) (by decide) (by decide) (Nat.le_of_ble_eq_true rfl) (Nat.le_of_ble_eq_true rfl) dX5_init_76 (fun q10 H hP hD hS => ?_)
  refine W.widen (k := 10) (n := 269) (Nat.le_of_ble_eq_true rfl) (Nat.le_of_ble_eq_true rfl) ?_
  have hP : va_P D vwCl [(m0, .inr (5, [.int 0, .int 0, .ref q1, .ref q2, .int 0, .int 0, .int 0, .ref q3, .ref q4, .ref q5, .int 0, .ref q6, .int 0, .int 0, .ref q7, .ref q8, .ref q9, .null, .long 0, .null, .int 0, .int 0, .int 0, .int 0, .null, .null, .null, .null, .null, .long 0])), (q1, .inl (cy 0, 3, .inl (fun _ => 0))), (q2, .inl (cy 0, 3, .inl (fun _ => 0))), (q3, .inl (cy 0, 6, .inl (fun _ => 0))), (q4, .inl (cy 0, 6, .inl (fun _ => 0))), (q5, .inl (cy 0, 6, .inl (fun _ => 0))), (q6, .inl (cy 1, 26, .inl (fun _ => 0))), (q7, .inl (cy 0, 72, .inl (fun _ => 0))), (q8, .inl (cy 0, 72, .inl (fun _ => 0))), (q9, .inl (cy 0, 3, .inl (fun _ => 0))), (q10, .inl (cy 0, 72, .inl (fun _ => 0)))] H := hP
  have hD : va_D A [(m0, .inr (5, [.int 0, .int 0, .ref q1, .ref q2, .int 0, .int 0, .int 0, .ref q3, .ref q4, .ref q5, .int 0, .ref q6, .int 0, .int 0, .ref q7, .ref q8, .ref q9, .null, .long 0, .null, .int 0, .int 0, .int 0, .int 0, .null, .null, .null, .null, .null, .long 0])), (q1, .inl (cy 0, 3, .inl (fun _ => 0))), (q2, .inl (cy 0, 3, .inl (fun _ => 0))), (q3, .inl (cy 0, 6, .inl (fun _ => 0))), (q4, .inl (cy 0, 6, .inl (fun _ => 0))), (q5, .inl (cy 0, 6, .inl (fun _ => 0))), (q6, .inl (cy 1, 26, .inl (fun _ => 0))), (q7, .inl (cy 0, 72, .inl (fun _ => 0))), (q8, .inl (cy 0, 72, .inl (fun _ => 0))), (q9, .inl (cy 0, 3, .inl (fun _ => 0))), (q10, .inl (cy 0, 72, .inl (fun _ => 0)))] := hD
  refine va_putF (D := D) (ci := 5) (v := .ref q10) (ty := (.array .int)) (C := RX5) (T := TX5) (N := 30) hx hb hts hw_X5 tyX5 tyX5_ok nmX5 hown hK hP hD hS 0 rfl rfl 17 (by decide) f_38 (fun _ h9 => h9) rfl hin rfl (by decide +kernel) rfl rfl (Nat.le_of_ble_eq_true rfl) dX5_init_78 (fun H locs hP hD hS => ?_)
  have hP : va_P D vwCl [(m0, .inr (5, [.int 0, .int 0, .ref q1, .ref q2, .int 0, .int 0, .int 0, .ref q3, .ref q4, .ref q5, .int 0, .ref q6, .int 0, .int 0, .ref q7, .ref q8, .ref q9, .ref q10, .long 0, .null, .int 0, .int 0, .int 0, .int 0, .null, .null, .null, .null, .null, .long 0])), (q1, .inl (cy 0, 3, .inl (fun _ => 0))), (q2, .inl (cy 0, 3, .inl (fun _ => 0))), (q3, .inl (cy 0, 6, .inl (fun _ => 0))), (q4, .inl (cy 0, 6, .inl (fun _ => 0))), (q5, .inl (cy 0, 6, .inl (fun _ => 0))), (q6, .inl (cy 1, 26, .inl (fun _ => 0))), (q7, .inl (cy 0, 72, .inl (fun _ => 0))), (q8, .inl (cy 0, 72, .inl (fun _ => 0))), (q9, .inl (cy 0, 3, .inl (fun _ => 0))), (q10, .inl (cy 0, 72, .inl (fun _ => 0)))] H := hP
  have hD : va_D A [(m0, .inr (5, [.int 0, .int 0, .ref q1, .ref q2, .int 0, .int 0, .int 0, .ref q3, .ref q4, .ref q5, .int 0, .ref q6, .int 0, .int 0, .ref q7, .ref q8, .ref q9, .ref q10, .long 0, .null, .int 0, .int 0, .int 0, .int 0, .null, .null, .null, .null, .null, .long 0])), (q1, .inl (cy 0, 3, .inl (fun _ => 0))), (q2, .inl (cy 0, 3, .inl (fun _ => 0))), (q3, .inl (cy 0, 6, .inl (fun _ => 0))), (q4, .inl (cy 0, 6, .inl (fun _ => 0))), (q5, .inl (cy 0, 6, .inl (fun _ => 0))), (q6, .inl (cy 1, 26, .inl (fun _ => 0))), (q7, .inl (cy 0, 72, .inl (fun _ => 0))), (q8, .inl (cy 0, 72, .inl (fun _ => 0))), (q9, .inl (cy 0, 3, .inl (fun _ => 0))), (q10, .inl (cy 0, 72, .inl (fun _ => 0)))] := hD
  refine lv_aload_n hx hb dX5_init_81 rfl (lv_at hl 0 rfl) ?_
  refine lv_iconst (v := 3) hx hb dX5_init_82 (by decide) ?_
  refine nw_i (N' := 3) hx hb hX ac_I hP hD hS hA (by decide) (by decide) (by decide) (Nat.le_of_ble_eq_true rfl) (Nat.le_of_ble_eq_true rfl) dX5_init_83 (fun q11 H hP hD hS => ?_)
  refine W.widen (k := 11) (n := 272) (Nat.le_of_ble_eq_true rfl) (Nat.le_of_ble_eq_true rfl) ?_
  have hP : va_P D vwCl [(m0, .inr (5, [.int 0, .int 0, .ref q1, .ref q2, .int 0, .int 0, .int 0, .ref q3, .ref q4, .ref q5, .int 0, .ref q6, .int 0, .int 0, .ref q7, .ref q8, .ref q9, .ref q10, .long 0, .null, .int 0, .int 0, .int 0, .int 0, .null, .null, .null, .null, .null, .long 0])), (q1, .inl (cy 0, 3, .inl (fun _ => 0))), (q2, .inl (cy 0, 3, .inl (fun _ => 0))), (q3, .inl (cy 0, 6, .inl (fun _ => 0))), (q4, .inl (cy 0, 6, .inl (fun _ => 0))), (q5, .inl (cy 0, 6, .inl (fun _ => 0))), (q6, .inl (cy 1, 26, .inl (fun _ => 0))), (q7, .inl (cy 0, 72, .inl (fun _ => 0))), (q8, .inl (cy 0, 72, .inl (fun _ => 0))), (q9, .inl (cy 0, 3, .inl (fun _ => 0))), (q10, .inl (cy 0, 72, .inl (fun _ => 0))), (q11, .inl (cy 0, 3, .inl (fun _ => 0)))] H := hP
  have hD : va_D A [(m0, .inr (5, [.int 0, .int 0, .ref q1, .ref q2, .int 0, .int 0, .int 0, .ref q3, .ref q4, .ref q5, .int 0, .ref q6, .int 0, .int 0, .ref q7, .ref q8, .ref q9, .ref q10, .long 0, .null, .int 0, .int 0, .int 0, .int 0, .null, .null, .null, .null, .null, .long 0])), (q1, .inl (cy 0, 3, .inl (fun _ => 0))), (q2, .inl (cy 0, 3, .inl (fun _ => 0))), (q3, .inl (cy 0, 6, .inl (fun _ => 0))), (q4, .inl (cy 0, 6, .inl (fun _ => 0))), (q5, .inl (cy 0, 6, .inl (fun _ => 0))), (q6, .inl (cy 1, 26, .inl (fun _ => 0))), (q7, .inl (cy 0, 72, .inl (fun _ => 0))), (q8, .inl (cy 0, 72, .inl (fun _ => 0))), (q9, .inl (cy 0, 3, .inl (fun _ => 0))), (q10, .inl (cy 0, 72, .inl (fun _ => 0))), (q11, .inl (cy 0, 3, .inl (fun _ => 0)))] := hD
  refine va_putF (D := D) (ci := 5) (v := .ref q11) (ty := (.array .int)) (C := RX5) (T := TX5) (N := 30) hx hb hts hw_X5 tyX5 tyX5_ok nmX5 hown hK hP hD hS 0 rfl rfl 19 (by decide) f_41 (fun _ h9 => h9) rfl hin rfl (by decide +kernel) rfl rfl (Nat.le_of_ble_eq_true rfl) dX5_init_85 (fun H locs hP hD hS => ?_)
  have hP : va_P D vwCl [(m0, .inr (5, [.int 0, .int 0, .ref q1, .ref q2, .int 0, .int 0, .int 0, .ref q3, .ref q4, .ref q5, .int 0, .ref q6, .int 0, .int 0, .ref q7, .ref q8, .ref q9, .ref q10, .long 0, .ref q11, .int 0, .int 0, .int 0, .int 0, .null, .null, .null, .null, .null, .long 0])), (q1, .inl (cy 0, 3, .inl (fun _ => 0))), (q2, .inl (cy 0, 3, .inl (fun _ => 0))), (q3, .inl (cy 0, 6, .inl (fun _ => 0))), (q4, .inl (cy 0, 6, .inl (fun _ => 0))), (q5, .inl (cy 0, 6, .inl (fun _ => 0))), (q6, .inl (cy 1, 26, .inl (fun _ => 0))), (q7, .inl (cy 0, 72, .inl (fun _ => 0))), (q8, .inl (cy 0, 72, .inl (fun _ => 0))), (q9, .inl (cy 0, 3, .inl (fun _ => 0))), (q10, .inl (cy 0, 72, .inl (fun _ => 0))), (q11, .inl (cy 0, 3, .inl (fun _ => 0)))] H := hP
  have hD : va_D A [(m0, .inr (5, [.int 0, .int 0, .ref q1, .ref q2, .int 0, .int 0, .int 0, .ref q3, .ref q4, .ref q5, .int 0, .ref q6, .int 0, .int 0, .ref q7, .ref q8, .ref q9, .ref q10, .long 0, .ref q11, .int 0, .int 0, .int 0, .int 0, .null, .null, .null, .null, .null, .long 0])), (q1, .inl (cy 0, 3, .inl (fun _ => 0))), (q2, .inl (cy 0, 3, .inl (fun _ => 0))), (q3, .inl (cy 0, 6, .inl (fun _ => 0))), (q4, .inl (cy 0, 6, .inl (fun _ => 0))), (q5, .inl (cy 0, 6, .inl (fun _ => 0))), (q6, .inl (cy 1, 26, .inl (fun _ => 0))), (q7, .inl (cy 0, 72, .inl (fun _ => 0))), (q8, .inl (cy 0, 72, .inl (fun _ => 0))), (q9, .inl (cy 0, 3, .inl (fun _ => 0))), (q10, .inl (cy 0, 72, .inl (fun _ => 0))), (q11, .inl (cy 0, 3, .inl (fun _ => 0)))] := hD
  refine lv_aload_n hx hb dX5_init_88 rfl (lv_at hl 0 rfl) ?_
  refine lv_iconst (v := 3) hx hb dX5_init_89 (by decide) ?_
  refine nw_i (N' := 3) hx hb hX ac_I hP hD hS hA (by decide) (by decide) (by decide) (Nat.le_of_ble_eq_true rfl) (Nat.le_of_ble_eq_true rfl) dX5_init_90 (fun q12 H hP hD hS => ?_)
  refine W.widen (k := 12) (n := 275) (Nat.le_of_ble_eq_true rfl) (Nat.le_of_ble_eq_true rfl) ?_
  have hP : va_P D vwCl [(m0, .inr (5, [.int 0, .int 0, .ref q1, .ref q2, .int 0, .int 0, .int 0, .ref q3, .ref q4, .ref q5, .int 0, .ref q6, .int 0, .int 0, .ref q7, .ref q8, .ref q9, .ref q10, .long 0, .ref q11, .int 0, .int 0, .int 0, .int 0, .null, .null, .null, .null, .null, .long 0])), (q1, .inl (cy 0, 3, .inl (fun _ => 0))), (q2, .inl (cy 0, 3, .inl (fun _ => 0))), (q3, .inl (cy 0, 6, .inl (fun _ => 0))), (q4, .inl (cy 0, 6, .inl (fun _ => 0))), (q5, .inl (cy 0, 6, .inl (fun _ => 0))), (q6, .inl (cy 1, 26, .inl (fun _ => 0))), (q7, .inl (cy 0, 72, .inl (fun _ => 0))), (q8, .inl (cy 0, 72, .inl (fun _ => 0))), (q9, .inl (cy 0, 3, .inl (fun _ => 0))), (q10, .inl (cy 0, 72, .inl (fun _ => 0))), (q11, .inl (cy 0, 3, .inl (fun _ => 0))), (q12, .inl (cy 0, 3, .inl (fun _ => 0)))] H := hP
  have hD : va_D A [(m0, .inr (5, [.int 0, .int 0, .ref q1, .ref q2, .int 0, .int 0, .int 0, .ref q3, .ref q4, .ref q5, .int 0, .ref q6, .int 0, .int 0, .ref q7, .ref q8, .ref q9, .ref q10, .long 0, .ref q11, .int 0, .int 0, .int 0, .int 0, .null, .null, .null, .null, .null, .long 0])), (q1, .inl (cy 0, 3, .inl (fun _ => 0))), (q2, .inl (cy 0, 3, .inl (fun _ => 0))), (q3, .inl (cy 0, 6, .inl (fun _ => 0))), (q4, .inl (cy 0, 6, .inl (fun _ => 0))), (q5, .inl (cy 0, 6, .inl (fun _ => 0))), (q6, .inl (cy 1, 26, .inl (fun _ => 0))), (q7, .inl (cy 0, 72, .inl (fun _ => 0))), (q8, .inl (cy 0, 72, .inl (fun _ => 0))), (q9, .inl (cy 0, 3, .inl (fun _ => 0))), (q10, .inl (cy 0, 72, .inl (fun _ => 0))), (q11, .inl (cy 0, 3, .inl (fun _ => 0))), (q12, .inl (cy 0, 3, .inl (fun _ => 0)))] := hD
  refine va_putF (D := D) (ci := 5) (v := .ref q12) (ty := (.array .int)) (C := RX5) (T := TX5) (N := 30) hx hb hts hw_X5 tyX5 tyX5_ok nmX5 hown hK hP hD hS 0 rfl rfl 24 (by decide) f_44 (fun _ h9 => h9) rfl hin rfl (by decide +kernel) rfl rfl (Nat.le_of_ble_eq_true rfl) dX5_init_92 (fun H locs hP hD hS => ?_)
  have hP : va_P D vwCl [(m0, .inr (5, [.int 0, .int 0, .ref q1, .ref q2, .int 0, .int 0, .int 0, .ref q3, .ref q4, .ref q5, .int 0, .ref q6, .int 0, .int 0, .ref q7, .ref q8, .ref q9, .ref q10, .long 0, .ref q11, .int 0, .int 0, .int 0, .int 0, .ref q12, .null, .null, .null, .null, .long 0])), (q1, .inl (cy 0, 3, .inl (fun _ => 0))), (q2, .inl (cy 0, 3, .inl (fun _ => 0))), (q3, .inl (cy 0, 6, .inl (fun _ => 0))), (q4, .inl (cy 0, 6, .inl (fun _ => 0))), (q5, .inl (cy 0, 6, .inl (fun _ => 0))), (q6, .inl (cy 1, 26, .inl (fun _ => 0))), (q7, .inl (cy 0, 72, .inl (fun _ => 0))), (q8, .inl (cy 0, 72, .inl (fun _ => 0))), (q9, .inl (cy 0, 3, .inl (fun _ => 0))), (q10, .inl (cy 0, 72, .inl (fun _ => 0))), (q11, .inl (cy 0, 3, .inl (fun _ => 0))), (q12, .inl (cy 0, 3, .inl (fun _ => 0)))] H := hP
  have hD : va_D A [(m0, .inr (5, [.int 0, .int 0, .ref q1, .ref q2, .int 0, .int 0, .int 0, .ref q3, .ref q4, .ref q5, .int 0, .ref q6, .int 0, .int 0, .ref q7, .ref q8, .ref q9, .ref q10, .long 0, .ref q11, .int 0, .int 0, .int 0, .int 0, .ref q12, .null, .null, .null, .null, .long 0])), (q1, .inl (cy 0, 3, .inl (fun _ => 0))), (q2, .inl (cy 0, 3, .inl (fun _ => 0))), (q3, .inl (cy 0, 6, .inl (fun _ => 0))), (q4, .inl (cy 0, 6, .inl (fun _ => 0))), (q5, .inl (cy 0, 6, .inl (fun _ => 0))), (q6, .inl (cy 1, 26, .inl (fun _ => 0))), (q7, .inl (cy 0, 72, .inl (fun _ => 0))), (q8, .inl (cy 0, 72, .inl (fun _ => 0))), (q9, .inl (cy 0, 3, .inl (fun _ => 0))), (q10, .inl (cy 0, 72, .inl (fun _ => 0))), (q11, .inl (cy 0, 3, .inl (fun _ => 0))), (q12, .inl (cy 0, 3, .inl (fun _ => 0)))] := hD
  refine lv_aload_n hx hb dX5_init_95 rfl (lv_at hl 0 rfl) ?_
  refine lv_iconst (v := 3) hx hb dX5_init_96 (by decide) ?_
  refine nw_i (N' := 3) hx hb hX ac_I hP hD hS hA (by decide) (by decide) (by decide) (Nat.le_of_ble_eq_true rfl) (Nat.le_of_ble_eq_true rfl) dX5_init_97 (fun q13 H hP hD hS => ?_)
  refine W.widen (k := 13) (n := 278) (Nat.le_of_ble_eq_true rfl) (Nat.le_of_ble_eq_true rfl) ?_
  have hP : va_P D vwCl [(m0, .inr (5, [.int 0, .int 0, .ref q1, .ref q2, .int 0, .int 0, .int 0, .ref q3, .ref q4, .ref q5, .int 0, .ref q6, .int 0, .int 0, .ref q7, .ref q8, .ref q9, .ref q10, .long 0, .ref q11, .int 0, .int 0, .int 0, .int 0, .ref q12, .null, .null, .null, .null, .long 0])), (q1, .inl (cy 0, 3, .inl (fun _ => 0))), (q2, .inl (cy 0, 3, .inl (fun _ => 0))), (q3, .inl (cy 0, 6, .inl (fun _ => 0))), (q4, .inl (cy 0, 6, .inl (fun _ => 0))), (q5, .inl (cy 0, 6, .inl (fun _ => 0))), (q6, .inl (cy 1, 26, .inl (fun _ => 0))), (q7, .inl (cy 0, 72, .inl (fun _ => 0))), (q8, .inl (cy 0, 72, .inl (fun _ => 0))), (q9, .inl (cy 0, 3, .inl (fun _ => 0))), (q10, .inl (cy 0, 72, .inl (fun _ => 0))), (q11, .inl (cy 0, 3, .inl (fun _ => 0))), (q12, .inl (cy 0, 3, .inl (fun _ => 0))), (q13, .inl (cy 0, 3, .inl (fun _ => 0)))] H := hP
  have hD : va_D A [(m0, .inr (5, [.int 0, .int 0, .ref q1, .ref q2, .int 0, .int 0, .int 0, .ref q3, .ref q4, .ref q5, .int 0, .ref q6, .int 0, .int 0, .ref q7, .ref q8, .ref q9, .ref q10, .long 0, .ref q11, .int 0, .int 0, .int 0, .int 0, .ref q12, .null, .null, .null, .null, .long 0])), (q1, .inl (cy 0, 3, .inl (fun _ => 0))), (q2, .inl (cy 0, 3, .inl (fun _ => 0))), (q3, .inl (cy 0, 6, .inl (fun _ => 0))), (q4, .inl (cy 0, 6, .inl (fun _ => 0))), (q5, .inl (cy 0, 6, .inl (fun _ => 0))), (q6, .inl (cy 1, 26, .inl (fun _ => 0))), (q7, .inl (cy 0, 72, .inl (fun _ => 0))), (q8, .inl (cy 0, 72, .inl (fun _ => 0))), (q9, .inl (cy 0, 3, .inl (fun _ => 0))), (q10, .inl (cy 0, 72, .inl (fun _ => 0))), (q11, .inl (cy 0, 3, .inl (fun _ => 0))), (q12, .inl (cy 0, 3, .inl (fun _ => 0))), (q13, .inl (cy 0, 3, .inl (fun _ => 0)))] := hD
  refine va_putF (D := D) (ci := 5) (v := .ref q13) (ty := (.array .int)) (C := RX5) (T := TX5) (N := 30) hx hb hts hw_X5 tyX5 tyX5_ok nmX5 hown hK hP hD hS 0 rfl rfl 25 (by decide) f_47 (fun _ h9 => h9) rfl hin rfl (by decide +kernel) rfl rfl (Nat.le_of_ble_eq_true rfl) dX5_init_99 (fun H locs hP hD hS => ?_)
  have hP : va_P D vwCl [(m0, .inr (5, [.int 0, .int 0, .ref q1, .ref q2, .int 0, .int 0, .int 0, .ref q3, .ref q4, .ref q5, .int 0, .ref q6, .int 0, .int 0, .ref q7, .ref q8, .ref q9, .ref q10, .long 0, .ref q11, .int 0, .int 0, .int 0, .int 0, .ref q12, .ref q13, .null, .null, .null, .long 0])), (q1, .inl (cy 0, 3, .inl (fun _ => 0))), (q2, .inl (cy 0, 3, .inl (fun _ => 0))), (q3, .inl (cy 0, 6, .inl (fun _ => 0))), (q4, .inl (cy 0, 6, .inl (fun _ => 0))), (q5, .inl (cy 0, 6, .inl (fun _ => 0))), (q6, .inl (cy 1, 26, .inl (fun _ => 0))), (q7, .inl (cy 0, 72, .inl (fun _ => 0))), (q8, .inl (cy 0, 72, .inl (fun _ => 0))), (q9, .inl (cy 0, 3, .inl (fun _ => 0))), (q10, .inl (cy 0, 72, .inl (fun _ => 0))), (q11, .inl (cy 0, 3, .inl (fun _ => 0))), (q12, .inl (cy 0, 3, .inl (fun _ => 0))), (q13, .inl (cy 0, 3, .inl (fun _ => 0)))] H := hP
  have hD : va_D A [(m0, .inr (5, [.int 0, .int 0, .ref q1, .ref q2, .int 0, .int 0, .int 0, .ref q3, .ref q4, .ref q5, .int 0, .ref q6, .int 0, .int 0, .ref q7, .ref q8, .ref q9, .ref q10, .long 0, .ref q11, .int 0, .int 0, .int 0, .int 0, .ref q12, .ref q13, .null, .null, .null, .long 0])), (q1, .inl (cy 0, 3, .inl (fun _ => 0))), (q2, .inl (cy 0, 3, .inl (fun _ => 0))), (q3, .inl (cy 0, 6, .inl (fun _ => 0))), (q4, .inl (cy 0, 6, .inl (fun _ => 0))), (q5, .inl (cy 0, 6, .inl (fun _ => 0))), (q6, .inl (cy 1, 26, .inl (fun _ => 0))), (q7, .inl (cy 0, 72, .inl (fun _ => 0))), (q8, .inl (cy 0, 72, .inl (fun _ => 0))), (q9, .inl (cy 0, 3, .inl (fun _ => 0))), (q10, .inl (cy 0, 72, .inl (fun _ => 0))), (q11, .inl (cy 0, 3, .inl (fun _ => 0))), (q12, .inl (cy 0, 3, .inl (fun _ => 0))), (q13, .inl (cy 0, 3, .inl (fun _ => 0)))] := hD
  refine lv_aload_n hx hb dX5_init_102 rfl (lv_at hl 0 rfl) ?_
  refine lv_bipush (v := 6) hx hb dX5_init_103 (by decide) ?_
  refine nw_i (N' := 6) hx hb hX ac_I hP hD hS hA (by decide) (by decide) (by decide) (Nat.le_of_ble_eq_true rfl) (Nat.le_of_ble_eq_true rfl) dX5_init_105 (fun q14 H hP hD hS => ?_)
  refine W.widen (k := 14) (n := 284) (Nat.le_of_ble_eq_true rfl) (Nat.le_of_ble_eq_true rfl) ?_
  have hP : va_P D vwCl [(m0, .inr (5, [.int 0, .int 0, .ref q1, .ref q2, .int 0, .int 0, .int 0, .ref q3, .ref q4, .ref q5, .int 0, .ref q6, .int 0, .int 0, .ref q7, .ref q8, .ref q9, .ref q10, .long 0, .ref q11, .int 0, .int 0, .int 0, .int 0, .ref q12, .ref q13, .null, .null, .null, .long 0])), (q1, .inl (cy 0, 3, .inl (fun _ => 0))), (q2, .inl (cy 0, 3, .inl (fun _ => 0))), (q3, .inl (cy 0, 6, .inl (fun _ => 0))), (q4, .inl (cy 0, 6, .inl (fun _ => 0))), (q5, .inl (cy 0, 6, .inl (fun _ => 0))), (q6, .inl (cy 1, 26, .inl (fun _ => 0))), (q7, .inl (cy 0, 72, .inl (fun _ => 0))), (q8, .inl (cy 0, 72, .inl (fun _ => 0))), (q9, .inl (cy 0, 3, .inl (fun _ => 0))), (q10, .inl (cy 0, 72, .inl (fun _ => 0))), (q11, .inl (cy 0, 3, .inl (fun _ => 0))), (q12, .inl (cy 0, 3, .inl (fun _ => 0))), (q13, .inl (cy 0, 3, .inl (fun _ => 0))), (q14, .inl (cy 0, 6, .inl (fun _ => 0)))] H := hP
  have hD : va_D A [(m0, .inr (5, [.int 0, .int 0, .ref q1, .ref q2, .int 0, .int 0, .int 0, .ref q3, .ref q4, .ref q5, .int 0, .ref q6, .int 0, .int 0, .ref q7, .ref q8, .ref q9, .ref q10, .long 0, .ref q11, .int 0, .int 0, .int 0, .int 0, .ref q12, .ref q13, .null, .null, .null, .long 0])), (q1, .inl (cy 0, 3, .inl (fun _ => 0))), (q2, .inl (cy 0, 3, .inl (fun _ => 0))), (q3, .inl (cy 0, 6, .inl (fun _ => 0))), (q4, .inl (cy 0, 6, .inl (fun _ => 0))), (q5, .inl (cy 0, 6, .inl (fun _ => 0))), (q6, .inl (cy 1, 26, .inl (fun _ => 0))), (q7, .inl (cy 0, 72, .inl (fun _ => 0))), (q8, .inl (cy 0, 72, .inl (fun _ => 0))), (q9, .inl (cy 0, 3, .inl (fun _ => 0))), (q10, .inl (cy 0, 72, .inl (fun _ => 0))), (q11, .inl (cy 0, 3, .inl (fun _ => 0))), (q12, .inl (cy 0, 3, .inl (fun _ => 0))), (q13, .inl (cy 0, 3, .inl (fun _ => 0))), (q14, .inl (cy 0, 6, .inl (fun _ => 0)))] := hD
  refine va_putF (D := D) (ci := 5) (v := .ref q14) (ty := (.array .int)) (C := RX5) (T := TX5) (N := 30) hx hb hts hw_X5 tyX5 tyX5_ok nmX5 hown hK hP hD hS 0 rfl rfl 26 (by decide) f_50 (fun _ h9 => h9) rfl hin rfl (by decide +kernel) rfl rfl (Nat.le_of_ble_eq_true rfl) dX5_init_107 (fun H locs hP hD hS => ?_)
  have hP : va_P D vwCl [(m0, .inr (5, [.int 0, .int 0, .ref q1, .ref q2, .int 0, .int 0, .int 0, .ref q3, .ref q4, .ref q5, .int 0, .ref q6, .int 0, .int 0, .ref q7, .ref q8, .ref q9, .ref q10, .long 0, .ref q11, .int 0, .int 0, .int 0, .int 0, .ref q12, .ref q13, .ref q14, .null, .null, .long 0])), (q1, .inl (cy 0, 3, .inl (fun _ => 0))), (q2, .inl (cy 0, 3, .inl (fun _ => 0))), (q3, .inl (cy 0, 6, .inl (fun _ => 0))), (q4, .inl (cy 0, 6, .inl (fun _ => 0))), (q5, .inl (cy 0, 6, .inl (fun _ => 0))), (q6, .inl (cy 1, 26, .inl (fun _ => 0))), (q7, .inl (cy 0, 72, .inl (fun _ => 0))), (q8, .inl (cy 0, 72, .inl (fun _ => 0))), (q9, .inl (cy 0, 3, .inl (fun _ => 0))), (q10, .inl (cy 0, 72, .inl (fun _ => 0))), (q11, .inl (cy 0, 3, .inl (fun _ => 0))), (q12, .inl (cy 0, 3, .inl (fun _ => 0))), (q13, .inl (cy 0, 3, .inl (fun _ => 0))), (q14, .inl (cy 0, 6, .inl (fun _ => 0)))] H := hP
  have hD : va_D A [(m0, .inr (5, [.int 0, .int 0, .ref q1, .ref q2, .int 0, .int 0, .int 0, .ref q3, .ref q4, .ref q5, .int 0, .ref q6, .int 0, .int 0, .ref q7, .ref q8, .ref q9, .ref q10, .long 0, .ref q11, .int 0, .int 0, .int 0, .int 0, .ref q12, .ref q13, .ref q14, .null, .null, .long 0])), (q1, .inl (cy 0, 3, .inl (fun _ => 0))), (q2, .inl (cy 0, 3, .inl (fun _ => 0))), (q3, .inl (cy 0, 6, .inl (fun _ => 0))), (q4, .inl (cy 0, 6, .inl (fun _ => 0))), (q5, .inl (cy 0, 6, .inl (fun _ => 0))), (q6, .inl (cy 1, 26, .inl (fun _ => 0))), (q7, .inl (cy 0, 72, .inl (fun _ => 0))), (q8, .inl (cy 0, 72, .inl (fun _ => 0))), (q9, .inl (cy 0, 3, .inl (fun _ => 0))), (q10, .inl (cy 0, 72, .inl (fun _ => 0))), (q11, .inl (cy 0, 3, .inl (fun _ => 0))), (q12, .inl (cy 0, 3, .inl (fun _ => 0))), (q13, .inl (cy 0, 3, .inl (fun _ => 0))), (q14, .inl (cy 0, 6, .inl (fun _ => 0)))] := hD
  refine lv_aload_n hx hb dX5_init_110 rfl (lv_at hl 0 rfl) ?_
  refine lv_bipush (v := 6) hx hb dX5_init_111 (by decide) ?_
  refine nw_i (N' := 6) hx hb hX ac_I hP hD hS hA (by decide) (by decide) (by decide) (Nat.le_of_ble_eq_true rfl) (Nat.le_of_ble_eq_true rfl) dX5_init_113 (fun q15 H hP hD hS => ?_)
  refine W.widen (k := 15) (n := 290) (Nat.le_of_ble_eq_true rfl) (Nat.le_of_ble_eq_true rfl) ?_
  have hP : va_P D vwCl [(m0, .inr (5, [.int 0, .int 0, .ref q1, .ref q2, .int 0, .int 0, .int 0, .ref q3, .ref q4, .ref q5, .int 0, .ref q6, .int 0, .int 0, .ref q7, .ref q8, .ref q9, .ref q10, .long 0, .ref q11, .int 0, .int 0, .int 0, .int 0, .ref q12, .ref q13, .ref q14, .null, .null, .long 0])), (q1, .inl (cy 0, 3, .inl (fun _ => 0))), (q2, .inl (cy 0, 3, .inl (fun _ => 0))), (q3, .inl (cy 0, 6, .inl (fun _ => 0))), (q4, .inl (cy 0, 6, .inl (fun _ => 0))), (q5, .inl (cy 0, 6, .inl (fun _ => 0))), (q6, .inl (cy 1, 26, .inl (fun _ => 0))), (q7, .inl (cy 0, 72, .inl (fun _ => 0))), (q8, .inl (cy 0, 72, .inl (fun _ => 0))), (q9, .inl (cy 0, 3, .inl (fun _ => 0))), (q10, .inl (cy 0, 72, .inl (fun _ => 0))), (q11, .inl (cy 0, 3, .inl (fun _ => 0))), (q12, .inl (cy 0, 3, .inl (fun _ => 0))), (q13, .inl (cy 0, 3, .inl (fun _ => 0))), (q14, .inl (cy 0, 6, .inl (fun _ => 0))), (q15, .inl (cy 0, 6, .inl (fun _ => 0)))] H := hP
  have hD : va_D A [(m0, .inr (5, [.int 0, .int 0, .ref q1, .ref q2, .int 0, .int 0, .int 0, .ref q3, .ref q4, .ref q5, .int 0, .ref q6, .int 0, .int 0, .ref q7, .ref q8, .ref q9, .ref q10, .long 0, .ref q11, .int 0, .int 0, .int 0, .int 0, .ref q12, .ref q13, .ref q14, .null, .null, .long 0])), (q1, .inl (cy 0, 3, .inl (fun _ => 0))), (q2, .inl (cy 0, 3, .inl (fun _ => 0))), (q3, .inl (cy 0, 6, .inl (fun _ => 0))), (q4, .inl (cy 0, 6, .inl (fun _ => 0))), (q5, .inl (cy 0, 6, .inl (fun _ => 0))), (q6, .inl (cy 1, 26, .inl (fun _ => 0))), (q7, .inl (cy 0, 72, .inl (fun _ => 0))), (q8, .inl (cy 0, 72, .inl (fun _ => 0))), (q9, .inl (cy 0, 3, .inl (fun _ => 0))), (q10, .inl (cy 0, 72, .inl (fun _ => 0))), (q11, .inl (cy 0, 3, .inl (fun _ => 0))), (q12, .inl (cy 0, 3, .inl (fun _ => 0))), (q13, .inl (cy 0, 3, .inl (fun _ => 0))), (q14, .inl (cy 0, 6, .inl (fun _ => 0))), (q15, .inl (cy 0, 6, .inl (fun _ => 0)))] := hD
  refine va_putF (D := D) (ci := 5) (v := .ref q15) (ty := (.array .int)) (C := RX5) (T := TX5) (N := 30) hx hb hts hw_X5 tyX5 tyX5_ok nmX5 hown hK hP hD hS 0 rfl rfl 27 (by decide) f_53 (fun _ h9 => h9) rfl hin rfl (by decide +kernel) rfl rfl (Nat.le_of_ble_eq_true rfl) dX5_init_115 (fun H locs hP hD hS => ?_)
  have hP : va_P D vwCl [(m0, .inr (5, [.int 0, .int 0, .ref q1, .ref q2, .int 0, .int 0, .int 0, .ref q3, .ref q4, .ref q5, .int 0, .ref q6, .int 0, .int 0, .ref q7, .ref q8, .ref q9, .ref q10, .long 0, .ref q11, .int 0, .int 0, .int 0, .int 0, .ref q12, .ref q13, .ref q14, .ref q15, .null, .long 0])), (q1, .inl (cy 0, 3, .inl (fun _ => 0))), (q2, .inl (cy 0, 3, .inl (fun _ => 0))), (q3, .inl (cy 0, 6, .inl (fun _ => 0))), (q4, .inl (cy 0, 6, .inl (fun _ => 0))), (q5, .inl (cy 0, 6, .inl (fun _ => 0))), (q6, .inl (cy 1, 26, .inl (fun _ => 0))), (q7, .inl (cy 0, 72, .inl (fun _ => 0))), (q8, .inl (cy 0, 72, .inl (fun _ => 0))), (q9, .inl (cy 0, 3, .inl (fun _ => 0))), (q10, .inl (cy 0, 72, .inl (fun _ => 0))), (q11, .inl (cy 0, 3, .inl (fun _ => 0))), (q12, .inl (cy 0, 3, .inl (fun _ => 0))), (q13, .inl (cy 0, 3, .inl (fun _ => 0))), (q14, .inl (cy 0, 6, .inl (fun _ => 0))), (q15, .inl (cy 0, 6, .inl (fun _ => 0)))] H := hP
  have hD : va_D A [(m0, .inr (5, [.int 0, .int 0, .ref q1, .ref q2, .int 0, .int 0, .int 0, .ref q3, .ref q4, .ref q5, .int 0, .ref q6, .int 0, .int 0, .ref q7, .ref q8, .ref q9, .ref q10, .long 0, .ref q11, .int 0, .int 0, .int 0, .int 0, .ref q12, .ref q13, .ref q14, .ref q15, .null, .long 0])), (q1, .inl (cy 0, 3, .inl (fun _ => 0))), (q2, .inl (cy 0, 3, .inl (fun _ => 0))), (q3, .inl (cy 0, 6, .inl (fun _ => 0))), (q4, .inl (cy 0, 6, .inl (fun _ => 0))), (q5, .inl (cy 0, 6, .inl (fun _ => 0))), (q6, .inl (cy 1, 26, .inl (fun _ => 0))), (q7, .inl (cy 0, 72, .inl (fun _ => 0))), (q8, .inl (cy 0, 72, .inl (fun _ => 0))), (q9, .inl (cy 0, 3, .inl (fun _ => 0))), (q10, .inl (cy 0, 72, .inl (fun _ => 0))), (q11, .inl (cy 0, 3, .inl (fun _ => 0))), (q12, .inl (cy 0, 3, .inl (fun _ => 0))), (q13, .inl (cy 0, 3, .inl (fun _ => 0))), (q14, .inl (cy 0, 6, .inl (fun _ => 0))), (q15, .inl (cy 0, 6, .inl (fun _ => 0)))] := hD
  refine lv_aload_n hx hb dX5_init_118 rfl (lv_at hl 0 rfl) ?_
  refine lv_bipush (v := 6) hx hb dX5_init_119 (by decide) ?_
  refine nw_i (N' := 6) hx hb hX ac_I hP hD hS hA (by decide) (by decide) (by decide) (Nat.le_of_ble_eq_true rfl) (Nat.le_of_ble_eq_true rfl) dX5_init_121 (fun q16 H hP hD hS => ?_)
  refine W.widen (k := 16) (n := 296) (Nat.le_of_ble_eq_true rfl) (Nat.le_of_ble_eq_true rfl) ?_
  have hP : va_P D vwCl [(m0, .inr (5, [.int 0, .int 0, .ref q1, .ref q2, .int 0, .int 0, .int 0, .ref q3, .ref q4, .ref q5, .int 0, .ref q6, .int 0, .int 0, .ref q7, .ref q8, .ref q9, .ref q10, .long 0, .ref q11, .int 0, .int 0, .int 0, .int 0, .ref q12, .ref q13, .ref q14, .ref q15, .null, .long 0])), (q1, .inl (cy 0, 3, .inl (fun _ => 0))), (q2, .inl (cy 0, 3, .inl (fun _ => 0))), (q3, .inl (cy 0, 6, .inl (fun _ => 0))), (q4, .inl (cy 0, 6, .inl (fun _ => 0))), (q5, .inl (cy 0, 6, .inl (fun _ => 0))), (q6, .inl (cy 1, 26, .inl (fun _ => 0))), (q7, .inl (cy 0, 72, .inl (fun _ => 0))), (q8, .inl (cy 0, 72, .inl (fun _ => 0))), (q9, .inl (cy 0, 3, .inl (fun _ => 0))), (q10, .inl (cy 0, 72, .inl (fun _ => 0))), (q11, .inl (cy 0, 3, .inl (fun _ => 0))), (q12, .inl (cy 0, 3, .inl (fun _ => 0))), (q13, .inl (cy 0, 3, .inl (fun _ => 0))), (q14, .inl (cy 0, 6, .inl (fun _ => 0))), (q15, .inl (cy 0, 6, .inl (fun _ => 0))), (q16, .inl (cy 0, 6, .inl (fun _ => 0)))] H := hP
  have hD : va_D A [(m0, .inr (5, [.int 0, .int 0, .ref q1, .ref q2, .int 0, .int 0, .int 0, .ref q3, .ref q4, .ref q5, .int 0, .ref q6, .int 0, .int 0, .ref q7, .ref q8, .ref q9, .ref q10, .long 0, .ref q11, .int 0, .int 0, .int 0, .int 0, .ref q12, .ref q13, .ref q14, .ref q15, .null, .long 0])), (q1, .inl (cy 0, 3, .inl (fun _ => 0))), (q2, .inl (cy 0, 3, .inl (fun _ => 0))), (q3, .inl (cy 0, 6, .inl (fun _ => 0))), (q4, .inl (cy 0, 6, .inl (fun _ => 0))), (q5, .inl (cy 0, 6, .inl (fun _ => 0))), (q6, .inl (cy 1, 26, .inl (fun _ => 0))), (q7, .inl (cy 0, 72, .inl (fun _ => 0))), (q8, .inl (cy 0, 72, .inl (fun _ => 0))), (q9, .inl (cy 0, 3, .inl (fun _ => 0))), (q10, .inl (cy 0, 72, .inl (fun _ => 0))), (q11, .inl (cy 0, 3, .inl (fun _ => 0))), (q12, .inl (cy 0, 3, .inl (fun _ => 0))), (q13, .inl (cy 0, 3, .inl (fun _ => 0))), (q14, .inl (cy 0, 6, .inl (fun _ => 0))), (q15, .inl (cy 0, 6, .inl (fun _ => 0))), (q16, .inl (cy 0, 6, .inl (fun _ => 0)))] := hD
  refine va_putF (D := D) (ci := 5) (v := .ref q16) (ty := (.array .int)) (C := RX5) (T := TX5) (N := 30) hx hb hts hw_X5 tyX5 tyX5_ok nmX5 hown hK hP hD hS 0 rfl rfl 28 (by decide) f_56 (fun _ h9 => h9) rfl hin rfl (by decide +kernel) rfl rfl (Nat.le_of_ble_eq_true rfl) dX5_init_123 (fun H locs hP hD hS => ?_)
  have hP : va_P D vwCl [(m0, .inr (5, [.int 0, .int 0, .ref q1, .ref q2, .int 0, .int 0, .int 0, .ref q3, .ref q4, .ref q5, .int 0, .ref q6, .int 0, .int 0, .ref q7, .ref q8, .ref q9, .ref q10, .long 0, .ref q11, .int 0, .int 0, .int 0, .int 0, .ref q12, .ref q13, .ref q14, .ref q15, .ref q16, .long 0])), (q1, .inl (cy 0, 3, .inl (fun _ => 0))), (q2, .inl (cy 0, 3, .inl (fun _ => 0))), (q3, .inl (cy 0, 6, .inl (fun _ => 0))), (q4, .inl (cy 0, 6, .inl (fun _ => 0))), (q5, .inl (cy 0, 6, .inl (fun _ => 0))), (q6, .inl (cy 1, 26, .inl (fun _ => 0))), (q7, .inl (cy 0, 72, .inl (fun _ => 0))), (q8, .inl (cy 0, 72, .inl (fun _ => 0))), (q9, .inl (cy 0, 3, .inl (fun _ => 0))), (q10, .inl (cy 0, 72, .inl (fun _ => 0))), (q11, .inl (cy 0, 3, .inl (fun _ => 0))), (q12, .inl (cy 0, 3, .inl (fun _ => 0))), (q13, .inl (cy 0, 3, .inl (fun _ => 0))), (q14, .inl (cy 0, 6, .inl (fun _ => 0))), (q15, .inl (cy 0, 6, .inl (fun _ => 0))), (q16, .inl (cy 0, 6, .inl (fun _ => 0)))] H := hP
  have hD : va_D A [(m0, .inr (5, [.int 0, .int 0, .ref q1, .ref q2, .int 0, .int 0, .int 0, .ref q3, .ref q4, .ref q5, .int 0, .ref q6, .int 0, .int 0, .ref q7, .ref q8, .ref q9, .ref q10, .long 0, .ref q11, .int 0, .int 0, .int 0, .int 0, .ref q12, .ref q13, .ref q14, .ref q15, .ref q16, .long 0])), (q1, .inl (cy 0, 3, .inl (fun _ => 0))), (q2, .inl (cy 0, 3, .inl (fun _ => 0))), (q3, .inl (cy 0, 6, .inl (fun _ => 0))), (q4, .inl (cy 0, 6, .inl (fun _ => 0))), (q5, .inl (cy 0, 6, .inl (fun _ => 0))), (q6, .inl (cy 1, 26, .inl (fun _ => 0))), (q7, .inl (cy 0, 72, .inl (fun _ => 0))), (q8, .inl (cy 0, 72, .inl (fun _ => 0))), (q9, .inl (cy 0, 3, .inl (fun _ => 0))), (q10, .inl (cy 0, 72, .inl (fun _ => 0))), (q11, .inl (cy 0, 3, .inl (fun _ => 0))), (q12, .inl (cy 0, 3, .inl (fun _ => 0))), (q13, .inl (cy 0, 3, .inl (fun _ => 0))), (q14, .inl (cy 0, 6, .inl (fun _ => 0))), (q15, .inl (cy 0, 6, .inl (fun _ => 0))), (q16, .inl (cy 0, 6, .inl (fun _ => 0)))] := hD
  have hP9 := hP.sub (ws' := [(m0, .inr (5, [.int 0, .int 0, .ref q1, .ref q2, .int 0, .int 0, .int 0, .ref q3, .ref q4, .ref q5, .int 0, .ref q6, .int 0, .int 0, .ref q7, .ref q8, .ref q9, .ref q10, .long 0, .ref q11, .int 0, .int 0, .int 0, .int 0, .ref q12, .ref q13, .ref q14, .ref q15, .ref q16, .long 0])), (q1, .inl (cy 0, 3, .inl (fun _ => 0))), (q2, .inl (cy 0, 3, .inl (fun _ => 0))), (q3, .inl (cy 0, 6, .inl (fun _ => 0))), (q4, .inl (cy 0, 6, .inl (fun _ => 0))), (q5, .inl (cy 0, 6, .inl (fun _ => 0))), (q6, .inl (cy 1, 26, .inl (fun _ => 0))), (q7, .inl (cy 0, 72, .inl (fun _ => 0))), (q8, .inl (cy 0, 72, .inl (fun _ => 0))), (q9, .inl (cy 0, 3, .inl (fun _ => 0))), (q10, .inl (cy 0, 72, .inl (fun _ => 0))), (q11, .inl (cy 0, 3, .inl (fun _ => 0))), (q12, .inl (cy 0, 3, .inl (fun _ => 0))), (q13, .inl (cy 0, 3, .inl (fun _ => 0))), (q14, .inl (cy 0, 6, .inl (fun _ => 0))), (q15, .inl (cy 0, 6, .inl (fun _ => 0))), (q16, .inl (cy 0, 6, .inl (fun _ => 0)))]) [0, 1, 2, 3, 4, 5, 6, 7, 8, 9, 10, 11, 12, 13, 14, 15, 16] rfl
  have hD9 := hD.sub (ws' := [(m0, .inr (5, [.int 0, .int 0, .ref q1, .ref q2, .int 0, .int 0, .int 0, .ref q3, .ref q4, .ref q5, .int 0, .ref q6, .int 0, .int 0, .ref q7, .ref q8, .ref q9, .ref q10, .long 0, .ref q11, .int 0, .int 0, .int 0, .int 0, .ref q12, .ref q13, .ref q14, .ref q15, .ref q16, .long 0])), (q1, .inl (cy 0, 3, .inl (fun _ => 0))), (q2, .inl (cy 0, 3, .inl (fun _ => 0))), (q3, .inl (cy 0, 6, .inl (fun _ => 0))), (q4, .inl (cy 0, 6, .inl (fun _ => 0))), (q5, .inl (cy 0, 6, .inl (fun _ => 0))), (q6, .inl (cy 1, 26, .inl (fun _ => 0))), (q7, .inl (cy 0, 72, .inl (fun _ => 0))), (q8, .inl (cy 0, 72, .inl (fun _ => 0))), (q9, .inl (cy 0, 3, .inl (fun _ => 0))), (q10, .inl (cy 0, 72, .inl (fun _ => 0))), (q11, .inl (cy 0, 3, .inl (fun _ => 0))), (q12, .inl (cy 0, 3, .inl (fun _ => 0))), (q13, .inl (cy 0, 3, .inl (fun _ => 0))), (q14, .inl (cy 0, 6, .inl (fun _ => 0))), (q15, .inl (cy 0, 6, .inl (fun _ => 0))), (q16, .inl (cy 0, 6, .inl (fun _ => 0)))]) [0, 1, 2, 3, 4, 5, 6, 7, 8, 9, 10, 11, 12, 13, 14, 15, 16] (by decide +kernel) rfl
  exact W.vret hx hb hr (fun t9 ht9 hW9 => ⟨⟨[(m0, .inr (5, [.int 0, .int 0, .ref q1, .ref q2, .int 0, .int 0, .int 0, .ref q3, .ref q4, .ref q5, .int 0, .ref q6, .int 0, .int 0, .ref q7, .ref q8, .ref q9, .ref q10, .long 0, .ref q11, .int 0, .int 0, .int 0, .int 0, .ref q12, .ref q13, .ref q14, .ref q15, .ref q16, .long 0])), (q1, .inl (cy 0, 3, .inl (fun _ => 0))), (q2, .inl (cy 0, 3, .inl (fun _ => 0))), (q3, .inl (cy 0, 6, .inl (fun _ => 0))), (q4, .inl (cy 0, 6, .inl (fun _ => 0))), (q5, .inl (cy 0, 6, .inl (fun _ => 0))), (q6, .inl (cy 1, 26, .inl (fun _ => 0))), (q7, .inl (cy 0, 72, .inl (fun _ => 0))), (q8, .inl (cy 0, 72, .inl (fun _ => 0))), (q9, .inl (cy 0, 3, .inl (fun _ => 0))), (q10, .inl (cy 0, 72, .inl (fun _ => 0))), (q11, .inl (cy 0, 3, .inl (fun _ => 0))), (q12, .inl (cy 0, 3, .inl (fun _ => 0))), (q13, .inl (cy 0, 3, .inl (fun _ => 0))), (q14, .inl (cy 0, 6, .inl (fun _ => 0))), (q15, .inl (cy 0, 6, .inl (fun _ => 0))), (q16, .inl (cy 0, 6, .inl (fun _ => 0)))], rfl, ⟨q1, q2, q3, q4, q5, q6, q7, q8, q9, q10, q11, q12, q13, q14, q15, q16, rfl⟩, by rw [ht9]; exact hP9, hD9⟩, hS.F ht9⟩) hS.2.2 dX5_init_126
def q_X5_within (cy : Nat → ClassId) (v : Int32) (lo : Int32) (hi : Int32) : Int32 → va_W → Prop := fun (r : Int32) (u : va_W) => u = [] ∧ r = (if ¬ v < lo ∧ ¬ hi < v then 1 else 0)
set_option maxHeartbeats 4000000 in
set_option maxRecDepth 100000 in
theorem c_X5_within (l : Launch) (D : va_G) (cy : Nat → ClassId) (zz : Nat) (v : Int32) (lo : Int32) (hi : Int32) : Met l yX5_within wsX5_within ({ frames := 0, cells := 0, slots := 0, locals := 0 } : Room) (va_Pc [.int v, .int lo, .int hi] (cpre D cy [] zz)) (va_Qi (q_X5_within cy v lo hi) (cpost D (va_A [] zz)) (va_A [] zz)) 0 0 (va_A [] zz) := by
  refine Met.ofW (cc := cX5_within) (maxL := 3) (ret := (some .boolean)) (by decide) rfl ?_
  intro p e s m args below meth c s₁ B hml hv
  obtain ⟨rfl, hsz, hP, hD0, hX⟩ := hv
  have hx := B.exec
  have hb := B.bytes
  have hr := B.returns
  have hts := atoms_spec (ws := wsX5_within) B.pre
  have hown : s.vm.findClass RX5 = some m.cls := findClass_of_methodNamed B.named
  have hlocks := B.notSynchronized
  subst hsz
  have hD := hD0.self (sz := s.heap.size)
  generalize hAe : va_A [] s.heap.size = A at hD hX ⊢
  have hA : ∀ q : Nat, s.heap.size ≤ q → A q := fun q h => by rw [← hAe]; exact Or.inr h
  obtain ⟨H, hH⟩ : ∃ H : Heap, H = s.heap := ⟨_, rfl⟩
  have hS : va_S A s.heap H [] := hH ▸ va_S.rf
  have hK := hX.1
  have hP : va_P D vwCl [] H := hH ▸ hP
  rw [← hH]
  have hl := lv_entry ([.int v, .int lo, .int hi]) (n := 3) (Nat.le_of_ble_eq_true rfl)
  rw [lg_entry_eq]
  generalize (lg_sl ([.int v, .int lo, .int hi]) ++ List.replicate (3 - (lg_sl ([.int v, .int lo, .int hi])).length) Slot.unset).toArray = ls at hl ⊢
  have hl : lv_has ls 3 [(0, .int v), (1, .int lo), (2, .int hi)] := hl
  refine lv_iload_n hx hb dX5_within_0 rfl (lv_at hl 0 rfl) ?_
  refine lv_iload_n hx hb dX5_within_1 rfl (lv_at hl 1 rfl) ?_
  refine lv_icmp_lt (tgt := 14) hx hb dX5_within_2 (by decide) (fun c_2 => ?_) (fun c_2 => ?_)
  · refine lv_iconst (v := 0) hx hb dX5_within_14 (by decide) ?_
    have hP9 := hP.sub (ws' := []) [] rfl
    have hD9 := hD.sub (ws' := []) [] (by decide +kernel) rfl
    exact W.zret (v := 0) hx hb hr (rfl) (fun t9 ht9 hW9 => ⟨⟨0, [], rfl, ⟨rfl, (if_neg (fun h => h.1 c_2)).symm⟩, by rw [ht9]; exact hP9, hD9⟩, hS.F ht9⟩) hS.2.2 dX5_within_15
  · refine lv_iload_n hx hb dX5_within_5 rfl (lv_at hl 0 rfl) ?_
    refine lv_iload_n hx hb dX5_within_6 rfl (lv_at hl 2 rfl) ?_
    refine lv_icmp_gt (tgt := 14) hx hb dX5_within_7 (by decide) (fun c_7 => ?_) (fun c_7 => ?_)
    · refine lv_iconst (v := 0) hx hb dX5_within_14 (by decide) ?_
      have hP9 := hP.sub (ws' := []) [] rfl
      have hD9 := hD.sub (ws' := []) [] (by decide +kernel) rfl
      exact W.zret (v := 0) hx hb hr (rfl) (fun t9 ht9 hW9 => ⟨⟨0, [], rfl, ⟨rfl, (if_neg (fun h => h.2 c_7)).symm⟩, by rw [ht9]; exact hP9, hD9⟩, hS.F ht9⟩) hS.2.2 dX5_within_15
    · refine lv_iconst (v := 1) hx hb dX5_within_10 (by decide) ?_
      refine lv_goto (tgt := 15) hx hb dX5_within_11 (by decide) ?_
      have hP9 := hP.sub (ws' := []) [] rfl
      have hD9 := hD.sub (ws' := []) [] (by decide +kernel) rfl
      exact W.zret (v := 1) hx hb hr (rfl) (fun t9 ht9 hW9 => ⟨⟨1, [], rfl, ⟨rfl, (if_pos ⟨c_2, c_7⟩).symm⟩, by rw [ht9]; exact hP9, hD9⟩, hS.F ht9⟩) hS.2.2 dX5_within_15
def q_X5_isCube (cy : Nat → ClassId) (m0 : Nat) (kO : Nat) (lO : Nat) (sC : Nat) (sW : Nat) (sD : Nat) (pG : Nat) (wO : Nat) (fO : Nat) (mO : Nat) (cO : Nat) (th : Nat) (kK : Nat) (kL : Nat) (kC : Nat) (kW : Nat) (kD : Nat) (cu : Int32) : Int32 → va_W → Prop := fun (r : Int32) (u : va_W) => u = [(m0, .inr (5, [.int 0, .int 0, .ref kO, .ref lO, .int 0, .int 0, .int 0, .ref sC, .ref sW, .ref sD, .int 0, .ref pG, .int 0, .int 0, .ref wO, .ref fO, .ref mO, .ref cO, .long 0, .ref th, .int 0, .int 0, .int 0, .int 0, .ref kK, .ref kL, .ref kC, .ref kW, .ref kD, .long 0]))] ∧ r = 0
set_option maxHeartbeats 4000000 in
set_option maxRecDepth 100000 in
theorem c_X5_isCube (l : Launch) (D : va_G) (cy : Nat → ClassId) (zz : Nat) (m0 : Nat) (kO : Nat) (lO : Nat) (sC : Nat) (sW : Nat) (sD : Nat) (pG : Nat) (wO : Nat) (fO : Nat) (mO : Nat) (cO : Nat) (th : Nat) (kK : Nat) (kL : Nat) (kC : Nat) (kW : Nat) (kD : Nat) (cu : Int32) : Met l yX5_isCube wsX5_isCube ({ frames := 1, cells := 0, slots := 0, locals := 22 } : Room) (va_Pc [.ref m0, .int cu] (cpre D cy [(m0, .inr (5, [.int 0, .int 0, .ref kO, .ref lO, .int 0, .int 0, .int 0, .ref sC, .ref sW, .ref sD, .int 0, .ref pG, .int 0, .int 0, .ref wO, .ref fO, .ref mO, .ref cO, .long 0, .ref th, .int 0, .int 0, .int 0, .int 0, .ref kK, .ref kL, .ref kC, .ref kW, .ref kD, .long 0]))] zz)) (va_Qi (q_X5_isCube cy m0 kO lO sC sW sD pG wO fO mO cO th kK kL kC kW kD cu) (cpost D (va_A [(m0, .inr (5, [.int 0, .int 0, .ref kO, .ref lO, .int 0, .int 0, .int 0, .ref sC, .ref sW, .ref sD, .int 0, .ref pG, .int 0, .int 0, .ref wO, .ref fO, .ref mO, .ref cO, .long 0, .ref th, .int 0, .int 0, .int 0, .int 0, .ref kK, .ref kL, .ref kC, .ref kW, .ref kD, .long 0]))] zz)) (va_A [(m0, .inr (5, [.int 0, .int 0, .ref kO, .ref lO, .int 0, .int 0, .int 0, .ref sC, .ref sW, .ref sD, .int 0, .ref pG, .int 0, .int 0, .ref wO, .ref fO, .ref mO, .ref cO, .long 0, .ref th, .int 0, .int 0, .int 0, .int 0, .ref kK, .ref kL, .ref kC, .ref kW, .ref kD, .long 0]))] zz)) 0 0 (va_A [(m0, .inr (5, [.int 0, .int 0, .ref kO, .ref lO, .int 0, .int 0, .int 0, .ref sC, .ref sW, .ref sD, .int 0, .ref pG, .int 0, .int 0, .ref wO, .ref fO, .ref mO, .ref cO, .long 0, .ref th, .int 0, .int 0, .int 0, .int 0, .ref kK, .ref kL, .ref kC, .ref kW, .ref kD, .long 0]))] zz) := by
  refine Met.ofW (cc := cX5_isCube) (maxL := 2) (ret := (some .boolean)) (by decide) rfl ?_
  intro p e s m args below meth c s₁ B hml hv
  obtain ⟨rfl, hsz, hP, hD0, hX⟩ := hv
  have hx := B.exec
  have hb := B.bytes
  have hr := B.returns
  have hts := atoms_spec (ws := wsX5_isCube) B.pre
  have hown : s.vm.findClass RX5 = some m.cls := findClass_of_methodNamed B.named
  have hlocks := B.notSynchronized
  subst hsz
  have hD := hD0.self (sz := s.heap.size)
  generalize hAe : va_A [(m0, .inr (5, [.int 0, .int 0, .ref kO, .ref lO, .int 0, .int 0, .int 0, .ref sC, .ref sW, .ref sD, .int 0, .ref pG, .int 0, .int 0, .ref wO, .ref fO, .ref mO, .ref cO, .long 0, .ref th, .int 0, .int 0, .int 0, .int 0, .ref kK, .ref kL, .ref kC, .ref kW, .ref kD, .long 0]))] s.heap.size = A at hD hX ⊢
  have hA : ∀ q : Nat, s.heap.size ≤ q → A q := fun q h => by rw [← hAe]; exact Or.inr h
  obtain ⟨H, hH⟩ : ∃ H : Heap, H = s.heap := ⟨_, rfl⟩
  have hS : va_S A s.heap H [] := hH ▸ va_S.rf
  have hK := hX.1
  have hP : va_P D vwCl [(m0, .inr (5, [.int 0, .int 0, .ref kO, .ref lO, .int 0, .int 0, .int 0, .ref sC, .ref sW, .ref sD, .int 0, .ref pG, .int 0, .int 0, .ref wO, .ref fO, .ref mO, .ref cO, .long 0, .ref th, .int 0, .int 0, .int 0, .int 0, .ref kK, .ref kL, .ref kC, .ref kW, .ref kD, .long 0]))] H := hH ▸ hP
  rw [← hH]
  have hw_X5 : ∀ w ∈ wsX50, w ∈ wsX5_isCube := by decide +kernel
  have f_88 := hts (.fieldLink RX5 88 "CubeTowerModel" "cubes" "I") (by decide +kernel)
  have hl := lv_entry ([.ref m0, .int cu]) (n := 2) (Nat.le_of_ble_eq_true rfl)
  rw [lg_entry_eq]
  generalize (lg_sl ([.ref m0, .int cu]) ++ List.replicate (2 - (lg_sl ([.ref m0, .int cu])).length) Slot.unset).toArray = ls at hl ⊢
  have hl : lv_has ls 2 [(0, .ref m0), (1, .int cu)] := hl
  refine lv_iload_n hx hb dX5_isCube_0 rfl (lv_at hl 1 rfl) ?_
  refine lv_iconst (v := 0) hx hb dX5_isCube_1 (by decide) ?_
  refine lv_aload_n hx hb dX5_isCube_2 rfl (lv_at hl 0 rfl) ?_
  refine va_get (D := D) (ci := 5) (v := .int 0) (C := RX5) (T := TX5) (N := 30) hx hb hts hw_X5 hown hK hP 0 rfl rfl 1 (by decide) f_88 (fun _ h9 => h9) rfl dX5_isCube_3 ?_
  refine lv_iconst (v := 1) hx hb dX5_isCube_6 (by decide) ?_
  refine lv_isub hx hb dX5_isCube_7 ?_
  refine lv_topi (fun y1 ey1 => ?_)
  obtain rfl : y1 = (-1) := ey1.trans (by decide)
  refine kc_i (wc := []) (wr := [(m0, .inr (5, [.int 0, .int 0, .ref kO, .ref lO, .int 0, .int 0, .int 0, .ref sC, .ref sW, .ref sD, .int 0, .ref pG, .int 0, .int 0, .ref wO, .ref fO, .ref mO, .ref cO, .long 0, .ref th, .int 0, .int 0, .int 0, .int 0, .ref kK, .ref kL, .ref kC, .ref kW, .ref kD, .long 0]))]) (va_runS (As := [.int cu, .int 0, .int (-1)]) (rest := []) ⟨hx, hb, hml, hown, hts⟩ (c_X5_within l D cy H.size cu 0 (-1) ) (va_cwS 3 hts gX5_isCube_X5_within rfl rfl rfl (by decide +kernel) ⟨Nat.le_of_ble_eq_true rfl, Nat.le_of_ble_eq_true rfl⟩) (cpre_S (wc := []) hX hP hD hS hA [] (by decide +kernel) rfl) rfl rfl hl.1 rfl (lv_room (Nat.le_of_ble_eq_true rfl)) dX5_isCube_8 ⟨Nat.le_of_ble_eq_true rfl, Nat.le_of_ble_eq_true rfl⟩) hP hD hS hA [] [0] rfl rfl (by decide +kernel) (by decide +kernel) (fun rw u2 H locs hw hP hD hS => ?_)
  obtain ⟨hu, hrw⟩ := hw
  subst hu
  have hP : va_P D vwCl [(m0, .inr (5, [.int 0, .int 0, .ref kO, .ref lO, .int 0, .int 0, .int 0, .ref sC, .ref sW, .ref sD, .int 0, .ref pG, .int 0, .int 0, .ref wO, .ref fO, .ref mO, .ref cO, .long 0, .ref th, .int 0, .int 0, .int 0, .int 0, .ref kK, .ref kL, .ref kC, .ref kW, .ref kD, .long 0]))] H := hP
  have hD : va_D A [(m0, .inr (5, [.int 0, .int 0, .ref kO, .ref lO, .int 0, .int 0, .int 0, .ref sC, .ref sW, .ref sD, .int 0, .ref pG, .int 0, .int 0, .ref wO, .ref fO, .ref mO, .ref cO, .long 0, .ref th, .int 0, .int 0, .int 0, .int 0, .ref kK, .ref kL, .ref kC, .ref kW, .ref kD, .long 0]))] := hD
  have hrw := hrw.trans w_m1
  subst hrw
  have hP9 := hP.sub (ws' := [(m0, .inr (5, [.int 0, .int 0, .ref kO, .ref lO, .int 0, .int 0, .int 0, .ref sC, .ref sW, .ref sD, .int 0, .ref pG, .int 0, .int 0, .ref wO, .ref fO, .ref mO, .ref cO, .long 0, .ref th, .int 0, .int 0, .int 0, .int 0, .ref kK, .ref kL, .ref kC, .ref kW, .ref kD, .long 0]))]) [0] rfl
  have hD9 := hD.sub (ws' := [(m0, .inr (5, [.int 0, .int 0, .ref kO, .ref lO, .int 0, .int 0, .int 0, .ref sC, .ref sW, .ref sD, .int 0, .ref pG, .int 0, .int 0, .ref wO, .ref fO, .ref mO, .ref cO, .long 0, .ref th, .int 0, .int 0, .int 0, .int 0, .ref kK, .ref kL, .ref kC, .ref kW, .ref kD, .long 0]))]) [0] (by decide +kernel) rfl
  exact W.zret (v := 0) hx hb hr (rfl) (fun t9 ht9 hW9 => ⟨⟨0, [(m0, .inr (5, [.int 0, .int 0, .ref kO, .ref lO, .int 0, .int 0, .int 0, .ref sC, .ref sW, .ref sD, .int 0, .ref pG, .int 0, .int 0, .ref wO, .ref fO, .ref mO, .ref cO, .long 0, .ref th, .int 0, .int 0, .int 0, .int 0, .ref kK, .ref kL, .ref kC, .ref kW, .ref kD, .long 0]))], rfl, ⟨rfl, rfl⟩, by rw [ht9]; exact hP9, hD9⟩, hS.F ht9⟩) hS.2.2 dX5_isCube_11
def q_X5_cube (cy : Nat → ClassId) (m0 : Nat) (kO : Nat) (lO : Nat) (sC : Nat) (sW : Nat) (sD : Nat) (pG : Nat) (wO : Nat) (fO : Nat) (mO : Nat) (cO : Nat) (th : Nat) (kK : Nat) (kL : Nat) (kC : Nat) (kW : Nat) (kD : Nat) (x_c : Int32) (x_w : Int32) : Int32 → va_W → Prop := fun (r : Int32) (u : va_W) => u = [(m0, .inr (5, [.int 0, .int 0, .ref kO, .ref lO, .int 0, .int 0, .int 0, .ref sC, .ref sW, .ref sD, .int 0, .ref pG, .int 0, .int 0, .ref wO, .ref fO, .ref mO, .ref cO, .long 0, .ref th, .int 0, .int 0, .int 0, .int 0, .ref kK, .ref kL, .ref kC, .ref kW, .ref kD, .long 0]))] ∧ r = -101
set_option maxHeartbeats 4000000 in
set_option maxRecDepth 100000 in
theorem c_X5_cube (l : Launch) (D : va_G) (cy : Nat → ClassId) (zz : Nat) (m0 : Nat) (kO : Nat) (lO : Nat) (sC : Nat) (sW : Nat) (sD : Nat) (pG : Nat) (wO : Nat) (fO : Nat) (mO : Nat) (cO : Nat) (th : Nat) (kK : Nat) (kL : Nat) (kC : Nat) (kW : Nat) (kD : Nat) (x_c : Int32) (x_w : Int32) : Met l yX5_cube wsX5_cube ({ frames := 2, cells := 0, slots := 0, locals := 43 } : Room) (va_Pc [.ref m0, .int x_c, .int x_w] (cpre D cy [(m0, .inr (5, [.int 0, .int 0, .ref kO, .ref lO, .int 0, .int 0, .int 0, .ref sC, .ref sW, .ref sD, .int 0, .ref pG, .int 0, .int 0, .ref wO, .ref fO, .ref mO, .ref cO, .long 0, .ref th, .int 0, .int 0, .int 0, .int 0, .ref kK, .ref kL, .ref kC, .ref kW, .ref kD, .long 0]))] zz)) (va_Qi (q_X5_cube cy m0 kO lO sC sW sD pG wO fO mO cO th kK kL kC kW kD x_c x_w) (cpost D (va_A [(m0, .inr (5, [.int 0, .int 0, .ref kO, .ref lO, .int 0, .int 0, .int 0, .ref sC, .ref sW, .ref sD, .int 0, .ref pG, .int 0, .int 0, .ref wO, .ref fO, .ref mO, .ref cO, .long 0, .ref th, .int 0, .int 0, .int 0, .int 0, .ref kK, .ref kL, .ref kC, .ref kW, .ref kD, .long 0]))] zz)) (va_A [(m0, .inr (5, [.int 0, .int 0, .ref kO, .ref lO, .int 0, .int 0, .int 0, .ref sC, .ref sW, .ref sD, .int 0, .ref pG, .int 0, .int 0, .ref wO, .ref fO, .ref mO, .ref cO, .long 0, .ref th, .int 0, .int 0, .int 0, .int 0, .ref kK, .ref kL, .ref kC, .ref kW, .ref kD, .long 0]))] zz)) 0 0 (va_A [(m0, .inr (5, [.int 0, .int 0, .ref kO, .ref lO, .int 0, .int 0, .int 0, .ref sC, .ref sW, .ref sD, .int 0, .ref pG, .int 0, .int 0, .ref wO, .ref fO, .ref mO, .ref cO, .long 0, .ref th, .int 0, .int 0, .int 0, .int 0, .ref kK, .ref kL, .ref kC, .ref kW, .ref kD, .long 0]))] zz) := by
  refine Met.ofW (cc := cX5_cube) (maxL := 3) (ret := (some .int)) (by decide) rfl ?_
  intro p e s m args below meth c s₁ B hml hv
  obtain ⟨rfl, hsz, hP, hD0, hX⟩ := hv
  have hx := B.exec
  have hb := B.bytes
  have hr := B.returns
  have hts := atoms_spec (ws := wsX5_cube) B.pre
  have hown : s.vm.findClass RX5 = some m.cls := findClass_of_methodNamed B.named
  have hlocks := B.notSynchronized
  subst hsz
  have hD := hD0.self (sz := s.heap.size)
  generalize hAe : va_A [(m0, .inr (5, [.int 0, .int 0, .ref kO, .ref lO, .int 0, .int 0, .int 0, .ref sC, .ref sW, .ref sD, .int 0, .ref pG, .int 0, .int 0, .ref wO, .ref fO, .ref mO, .ref cO, .long 0, .ref th, .int 0, .int 0, .int 0, .int 0, .ref kK, .ref kL, .ref kC, .ref kW, .ref kD, .long 0]))] s.heap.size = A at hD hX ⊢
  have hA : ∀ q : Nat, s.heap.size ≤ q → A q := fun q h => by rw [← hAe]; exact Or.inr h
  obtain ⟨H, hH⟩ : ∃ H : Heap, H = s.heap := ⟨_, rfl⟩
  have hS : va_S A s.heap H [] := hH ▸ va_S.rf
  have hK := hX.1
  have hP : va_P D vwCl [(m0, .inr (5, [.int 0, .int 0, .ref kO, .ref lO, .int 0, .int 0, .int 0, .ref sC, .ref sW, .ref sD, .int 0, .ref pG, .int 0, .int 0, .ref wO, .ref fO, .ref mO, .ref cO, .long 0, .ref th, .int 0, .int 0, .int 0, .int 0, .ref kK, .ref kL, .ref kC, .ref kW, .ref kD, .long 0]))] H := hH ▸ hP
  rw [← hH]
  have hl := lv_entry ([.ref m0, .int x_c, .int x_w]) (n := 3) (Nat.le_of_ble_eq_true rfl)
  rw [lg_entry_eq]
  generalize (lg_sl ([.ref m0, .int x_c, .int x_w]) ++ List.replicate (3 - (lg_sl ([.ref m0, .int x_c, .int x_w])).length) Slot.unset).toArray = ls at hl ⊢
  have hl : lv_has ls 3 [(0, .ref m0), (1, .int x_c), (2, .int x_w)] := hl
  refine lv_aload_n hx hb dX5_cube_0 rfl (lv_at hl 0 rfl) ?_
  refine lv_iload_n hx hb dX5_cube_1 rfl (lv_at hl 1 rfl) ?_
  refine kc_i (wc := [(m0, .inr (5, [.int 0, .int 0, .ref kO, .ref lO, .int 0, .int 0, .int 0, .ref sC, .ref sW, .ref sD, .int 0, .ref pG, .int 0, .int 0, .ref wO, .ref fO, .ref mO, .ref cO, .long 0, .ref th, .int 0, .int 0, .int 0, .int 0, .ref kK, .ref kL, .ref kC, .ref kW, .ref kD, .long 0]))]) (wr := []) (va_runV (As := [.int x_c]) (rest := []) ⟨hx, hb, hml, hown, hts⟩ (c_X5_isCube l D cy H.size m0 kO lO sC sW sD pG wO fO mO cO th kK kL kC kW kD x_c ) (cwV 1 hts gX5_cube_X5_isCube rfl rfl rfl (by decide +kernel) ⟨Nat.le_of_ble_eq_true rfl, Nat.le_of_ble_eq_true rfl⟩) (cpre_V (wc := [(m0, .inr (5, [.int 0, .int 0, .ref kO, .ref lO, .int 0, .int 0, .int 0, .ref sC, .ref sW, .ref sD, .int 0, .ref pG, .int 0, .int 0, .ref wO, .ref fO, .ref mO, .ref cO, .long 0, .ref th, .int 0, .int 0, .int 0, .int 0, .ref kK, .ref kL, .ref kC, .ref kW, .ref kD, .long 0]))]) 0 5 rfl rfl hX hP hD hS hA [0] (by decide +kernel) rfl) rfl rfl hl.1 rfl (lv_room (Nat.le_of_ble_eq_true rfl)) dX5_cube_2 ⟨Nat.le_of_ble_eq_true rfl, Nat.le_of_ble_eq_true rfl⟩) hP hD hS hA [0] [] rfl rfl (by decide +kernel) (by decide +kernel) (fun ri u1 H locs hw hP hD hS => ?_)
  obtain ⟨hu, hri⟩ := hw
  subst hu
  have hP : va_P D vwCl [(m0, .inr (5, [.int 0, .int 0, .ref kO, .ref lO, .int 0, .int 0, .int 0, .ref sC, .ref sW, .ref sD, .int 0, .ref pG, .int 0, .int 0, .ref wO, .ref fO, .ref mO, .ref cO, .long 0, .ref th, .int 0, .int 0, .int 0, .int 0, .ref kK, .ref kL, .ref kC, .ref kW, .ref kD, .long 0]))] H := hP
  have hD : va_D A [(m0, .inr (5, [.int 0, .int 0, .ref kO, .ref lO, .int 0, .int 0, .int 0, .ref sC, .ref sW, .ref sD, .int 0, .ref pG, .int 0, .int 0, .ref wO, .ref fO, .ref mO, .ref cO, .long 0, .ref th, .int 0, .int 0, .int 0, .int 0, .ref kK, .ref kL, .ref kC, .ref kW, .ref kD, .long 0]))] := hD
  subst hri
  refine lv_if_ne (tgt := 11) hx hb dX5_cube_5 (by decide) (fun c_5 => ?_) (fun c_5 => ?_)
  · exact absurd c_5 (by decide)
  · refine lv_bipush (v := (-101)) hx hb dX5_cube_8 (by decide) ?_
    have hP9 := hP.sub (ws' := [(m0, .inr (5, [.int 0, .int 0, .ref kO, .ref lO, .int 0, .int 0, .int 0, .ref sC, .ref sW, .ref sD, .int 0, .ref pG, .int 0, .int 0, .ref wO, .ref fO, .ref mO, .ref cO, .long 0, .ref th, .int 0, .int 0, .int 0, .int 0, .ref kK, .ref kL, .ref kC, .ref kW, .ref kD, .long 0]))]) [0] rfl
    have hD9 := hD.sub (ws' := [(m0, .inr (5, [.int 0, .int 0, .ref kO, .ref lO, .int 0, .int 0, .int 0, .ref sC, .ref sW, .ref sD, .int 0, .ref pG, .int 0, .int 0, .ref wO, .ref fO, .ref mO, .ref cO, .long 0, .ref th, .int 0, .int 0, .int 0, .int 0, .ref kK, .ref kL, .ref kC, .ref kW, .ref kD, .long 0]))]) [0] (by decide +kernel) rfl
    exact W.iret (v := (-101)) hx hb hr (fun t9 ht9 hW9 => ⟨⟨(-101), [(m0, .inr (5, [.int 0, .int 0, .ref kO, .ref lO, .int 0, .int 0, .int 0, .ref sC, .ref sW, .ref sD, .int 0, .ref pG, .int 0, .int 0, .ref wO, .ref fO, .ref mO, .ref cO, .long 0, .ref th, .int 0, .int 0, .int 0, .int 0, .ref kK, .ref kL, .ref kC, .ref kW, .ref kD, .long 0]))], rfl, ⟨rfl, rfl⟩, by rw [ht9]; exact hP9, hD9⟩, hS.F ht9⟩) hS.2.2 dX5_cube_10
def q_X5_as (cy : Nat → ClassId) (m0 : Nat) (kO : Nat) (lO : Nat) (sC : Nat) (sW : Nat) (sD : Nat) (pG : Nat) (wO : Nat) (fO : Nat) (mO : Nat) (cO : Nat) (th : Nat) (kK : Nat) (kL : Nat) (kC : Nat) (kW : Nat) (kD : Nat) (x_c : Int32) (x_k : Int32) : Int32 → va_W → Prop := fun (r : Int32) (u : va_W) => u = [(m0, .inr (5, [.int 0, .int 0, .ref kO, .ref lO, .int 0, .int 0, .int 0, .ref sC, .ref sW, .ref sD, .int 0, .ref pG, .int 0, .int 0, .ref wO, .ref fO, .ref mO, .ref cO, .long 0, .ref th, .int 0, .int 0, .int 0, .int 0, .ref kK, .ref kL, .ref kC, .ref kW, .ref kD, .long 0]))] ∧ r = -101
set_option maxHeartbeats 4000000 in
set_option maxRecDepth 100000 in
theorem c_X5_as (l : Launch) (D : va_G) (cy : Nat → ClassId) (zz : Nat) (m0 : Nat) (kO : Nat) (lO : Nat) (sC : Nat) (sW : Nat) (sD : Nat) (pG : Nat) (wO : Nat) (fO : Nat) (mO : Nat) (cO : Nat) (th : Nat) (kK : Nat) (kL : Nat) (kC : Nat) (kW : Nat) (kD : Nat) (x_c : Int32) (x_k : Int32) : Met l yX5_as wsX5_as ({ frames := 2, cells := 0, slots := 0, locals := 43 } : Room) (va_Pc [.ref m0, .int x_c, .int x_k] (cpre D cy [(m0, .inr (5, [.int 0, .int 0, .ref kO, .ref lO, .int 0, .int 0, .int 0, .ref sC, .ref sW, .ref sD, .int 0, .ref pG, .int 0, .int 0, .ref wO, .ref fO, .ref mO, .ref cO, .long 0, .ref th, .int 0, .int 0, .int 0, .int 0, .ref kK, .ref kL, .ref kC, .ref kW, .ref kD, .long 0]))] zz)) (va_Qi (q_X5_as cy m0 kO lO sC sW sD pG wO fO mO cO th kK kL kC kW kD x_c x_k) (cpost D (va_A [(m0, .inr (5, [.int 0, .int 0, .ref kO, .ref lO, .int 0, .int 0, .int 0, .ref sC, .ref sW, .ref sD, .int 0, .ref pG, .int 0, .int 0, .ref wO, .ref fO, .ref mO, .ref cO, .long 0, .ref th, .int 0, .int 0, .int 0, .int 0, .ref kK, .ref kL, .ref kC, .ref kW, .ref kD, .long 0]))] zz)) (va_A [(m0, .inr (5, [.int 0, .int 0, .ref kO, .ref lO, .int 0, .int 0, .int 0, .ref sC, .ref sW, .ref sD, .int 0, .ref pG, .int 0, .int 0, .ref wO, .ref fO, .ref mO, .ref cO, .long 0, .ref th, .int 0, .int 0, .int 0, .int 0, .ref kK, .ref kL, .ref kC, .ref kW, .ref kD, .long 0]))] zz)) 0 0 (va_A [(m0, .inr (5, [.int 0, .int 0, .ref kO, .ref lO, .int 0, .int 0, .int 0, .ref sC, .ref sW, .ref sD, .int 0, .ref pG, .int 0, .int 0, .ref wO, .ref fO, .ref mO, .ref cO, .long 0, .ref th, .int 0, .int 0, .int 0, .int 0, .ref kK, .ref kL, .ref kC, .ref kW, .ref kD, .long 0]))] zz) := by
  refine Met.ofW (cc := cX5_as) (maxL := 4) (ret := (some .int)) (by decide) rfl ?_
  intro p e s m args below meth c s₁ B hml hv
  obtain ⟨rfl, hsz, hP, hD0, hX⟩ := hv
  have hx := B.exec
  have hb := B.bytes
  have hr := B.returns
  have hts := atoms_spec (ws := wsX5_as) B.pre
  have hown : s.vm.findClass RX5 = some m.cls := findClass_of_methodNamed B.named
  have hlocks := B.notSynchronized
  subst hsz
  have hD := hD0.self (sz := s.heap.size)
  generalize hAe : va_A [(m0, .inr (5, [.int 0, .int 0, .ref kO, .ref lO, .int 0, .int 0, .int 0, .ref sC, .ref sW, .ref sD, .int 0, .ref pG, .int 0, .int 0, .ref wO, .ref fO, .ref mO, .ref cO, .long 0, .ref th, .int 0, .int 0, .int 0, .int 0, .ref kK, .ref kL, .ref kC, .ref kW, .ref kD, .long 0]))] s.heap.size = A at hD hX ⊢
  have hA : ∀ q : Nat, s.heap.size ≤ q → A q := fun q h => by rw [← hAe]; exact Or.inr h
  obtain ⟨H, hH⟩ : ∃ H : Heap, H = s.heap := ⟨_, rfl⟩
  have hS : va_S A s.heap H [] := hH ▸ va_S.rf
  have hK := hX.1
  have hP : va_P D vwCl [(m0, .inr (5, [.int 0, .int 0, .ref kO, .ref lO, .int 0, .int 0, .int 0, .ref sC, .ref sW, .ref sD, .int 0, .ref pG, .int 0, .int 0, .ref wO, .ref fO, .ref mO, .ref cO, .long 0, .ref th, .int 0, .int 0, .int 0, .int 0, .ref kK, .ref kL, .ref kC, .ref kW, .ref kD, .long 0]))] H := hH ▸ hP
  rw [← hH]
  have hl := lv_entry ([.ref m0, .int x_c, .int x_k]) (n := 4) (Nat.le_of_ble_eq_true rfl)
  rw [lg_entry_eq]
  generalize (lg_sl ([.ref m0, .int x_c, .int x_k]) ++ List.replicate (4 - (lg_sl ([.ref m0, .int x_c, .int x_k])).length) Slot.unset).toArray = ls at hl ⊢
  have hl : lv_has ls 4 [(0, .ref m0), (1, .int x_c), (2, .int x_k)] := hl
  refine lv_aload_n hx hb dX5_as_0 rfl (lv_at hl 0 rfl) ?_
  refine lv_iload_n hx hb dX5_as_1 rfl (lv_at hl 1 rfl) ?_
  refine kc_i (wc := [(m0, .inr (5, [.int 0, .int 0, .ref kO, .ref lO, .int 0, .int 0, .int 0, .ref sC, .ref sW, .ref sD, .int 0, .ref pG, .int 0, .int 0, .ref wO, .ref fO, .ref mO, .ref cO, .long 0, .ref th, .int 0, .int 0, .int 0, .int 0, .ref kK, .ref kL, .ref kC, .ref kW, .ref kD, .long 0]))]) (wr := []) (va_runV (As := [.int x_c]) (rest := []) ⟨hx, hb, hml, hown, hts⟩ (c_X5_isCube l D cy H.size m0 kO lO sC sW sD pG wO fO mO cO th kK kL kC kW kD x_c ) (cwV 1 hts gX5_as_X5_isCube rfl rfl rfl (by decide +kernel) ⟨Nat.le_of_ble_eq_true rfl, Nat.le_of_ble_eq_true rfl⟩) (cpre_V (wc := [(m0, .inr (5, [.int 0, .int 0, .ref kO, .ref lO, .int 0, .int 0, .int 0, .ref sC, .ref sW, .ref sD, .int 0, .ref pG, .int 0, .int 0, .ref wO, .ref fO, .ref mO, .ref cO, .long 0, .ref th, .int 0, .int 0, .int 0, .int 0, .ref kK, .ref kL, .ref kC, .ref kW, .ref kD, .long 0]))]) 0 5 rfl rfl hX hP hD hS hA [0] (by decide +kernel) rfl) rfl rfl hl.1 rfl (lv_room (Nat.le_of_ble_eq_true rfl)) dX5_as_2 ⟨Nat.le_of_ble_eq_true rfl, Nat.le_of_ble_eq_true rfl⟩) hP hD hS hA [0] [] rfl rfl (by decide +kernel) (by decide +kernel) (fun ri u1 H locs hw hP hD hS => ?_)
  obtain ⟨hu, hri⟩ := hw
  subst hu
  have hP : va_P D vwCl [(m0, .inr (5, [.int 0, .int 0, .ref kO, .ref lO, .int 0, .int 0, .int 0, .ref sC, .ref sW, .ref sD, .int 0, .ref pG, .int 0, .int 0, .ref wO, .ref fO, .ref mO, .ref cO, .long 0, .ref th, .int 0, .int 0, .int 0, .int 0, .ref kK, .ref kL, .ref kC, .ref kW, .ref kD, .long 0]))] H := hP
  have hD : va_D A [(m0, .inr (5, [.int 0, .int 0, .ref kO, .ref lO, .int 0, .int 0, .int 0, .ref sC, .ref sW, .ref sD, .int 0, .ref pG, .int 0, .int 0, .ref wO, .ref fO, .ref mO, .ref cO, .long 0, .ref th, .int 0, .int 0, .int 0, .int 0, .ref kK, .ref kL, .ref kC, .ref kW, .ref kD, .long 0]))] := hD
  subst hri
  refine lv_if_ne (tgt := 11) hx hb dX5_as_5 (by decide) (fun c_5 => ?_) (fun c_5 => ?_)
  · exact absurd c_5 (by decide)
  · refine lv_bipush (v := (-101)) hx hb dX5_as_8 (by decide) ?_
    have hP9 := hP.sub (ws' := [(m0, .inr (5, [.int 0, .int 0, .ref kO, .ref lO, .int 0, .int 0, .int 0, .ref sC, .ref sW, .ref sD, .int 0, .ref pG, .int 0, .int 0, .ref wO, .ref fO, .ref mO, .ref cO, .long 0, .ref th, .int 0, .int 0, .int 0, .int 0, .ref kK, .ref kL, .ref kC, .ref kW, .ref kD, .long 0]))]) [0] rfl
    have hD9 := hD.sub (ws' := [(m0, .inr (5, [.int 0, .int 0, .ref kO, .ref lO, .int 0, .int 0, .int 0, .ref sC, .ref sW, .ref sD, .int 0, .ref pG, .int 0, .int 0, .ref wO, .ref fO, .ref mO, .ref cO, .long 0, .ref th, .int 0, .int 0, .int 0, .int 0, .ref kK, .ref kL, .ref kC, .ref kW, .ref kD, .long 0]))]) [0] (by decide +kernel) rfl
    exact W.iret (v := (-101)) hx hb hr (fun t9 ht9 hW9 => ⟨⟨(-101), [(m0, .inr (5, [.int 0, .int 0, .ref kO, .ref lO, .int 0, .int 0, .int 0, .ref sC, .ref sW, .ref sD, .int 0, .ref pG, .int 0, .int 0, .ref wO, .ref fO, .ref mO, .ref cO, .long 0, .ref th, .int 0, .int 0, .int 0, .int 0, .ref kK, .ref kL, .ref kC, .ref kW, .ref kD, .long 0]))], rfl, ⟨rfl, rfl⟩, by rw [ht9]; exact hP9, hD9⟩, hS.F ht9⟩) hS.2.2 dX5_as_10
def q_X5_turn (cy : Nat → ClassId) (m0 : Nat) (kO : Nat) (lO : Nat) (sC : Nat) (sW : Nat) (sD : Nat) (pG : Nat) (wO : Nat) (fO : Nat) (mO : Nat) (cO : Nat) (th : Nat) (kK : Nat) (kL : Nat) (kC : Nat) (kW : Nat) (kD : Nat) (x_c : Int32) (x_t : Int32) : Int32 → va_W → Prop := fun (r : Int32) (u : va_W) => u = [(m0, .inr (5, [.int 0, .int 0, .ref kO, .ref lO, .int 0, .int 0, .int 0, .ref sC, .ref sW, .ref sD, .int 0, .ref pG, .int 0, .int 0, .ref wO, .ref fO, .ref mO, .ref cO, .long 0, .ref th, .int 0, .int 0, .int 0, .int 0, .ref kK, .ref kL, .ref kC, .ref kW, .ref kD, .long 0]))] ∧ r = -101
set_option maxHeartbeats 4000000 in
set_option maxRecDepth 100000 in
theorem c_X5_turn (l : Launch) (D : va_G) (cy : Nat → ClassId) (zz : Nat) (m0 : Nat) (kO : Nat) (lO : Nat) (sC : Nat) (sW : Nat) (sD : Nat) (pG : Nat) (wO : Nat) (fO : Nat) (mO : Nat) (cO : Nat) (th : Nat) (kK : Nat) (kL : Nat) (kC : Nat) (kW : Nat) (kD : Nat) (x_c : Int32) (x_t : Int32) : Met l yX5_turn wsX5_turn ({ frames := 2, cells := 0, slots := 0, locals := 43 } : Room) (va_Pc [.ref m0, .int x_c, .int x_t] (cpre D cy [(m0, .inr (5, [.int 0, .int 0, .ref kO, .ref lO, .int 0, .int 0, .int 0, .ref sC, .ref sW, .ref sD, .int 0, .ref pG, .int 0, .int 0, .ref wO, .ref fO, .ref mO, .ref cO, .long 0, .ref th, .int 0, .int 0, .int 0, .int 0, .ref kK, .ref kL, .ref kC, .ref kW, .ref kD, .long 0]))] zz)) (va_Qi (q_X5_turn cy m0 kO lO sC sW sD pG wO fO mO cO th kK kL kC kW kD x_c x_t) (cpost D (va_A [(m0, .inr (5, [.int 0, .int 0, .ref kO, .ref lO, .int 0, .int 0, .int 0, .ref sC, .ref sW, .ref sD, .int 0, .ref pG, .int 0, .int 0, .ref wO, .ref fO, .ref mO, .ref cO, .long 0, .ref th, .int 0, .int 0, .int 0, .int 0, .ref kK, .ref kL, .ref kC, .ref kW, .ref kD, .long 0]))] zz)) (va_A [(m0, .inr (5, [.int 0, .int 0, .ref kO, .ref lO, .int 0, .int 0, .int 0, .ref sC, .ref sW, .ref sD, .int 0, .ref pG, .int 0, .int 0, .ref wO, .ref fO, .ref mO, .ref cO, .long 0, .ref th, .int 0, .int 0, .int 0, .int 0, .ref kK, .ref kL, .ref kC, .ref kW, .ref kD, .long 0]))] zz)) 0 0 (va_A [(m0, .inr (5, [.int 0, .int 0, .ref kO, .ref lO, .int 0, .int 0, .int 0, .ref sC, .ref sW, .ref sD, .int 0, .ref pG, .int 0, .int 0, .ref wO, .ref fO, .ref mO, .ref cO, .long 0, .ref th, .int 0, .int 0, .int 0, .int 0, .ref kK, .ref kL, .ref kC, .ref kW, .ref kD, .long 0]))] zz) := by
  refine Met.ofW (cc := cX5_turn) (maxL := 3) (ret := (some .int)) (by decide) rfl ?_
  intro p e s m args below meth c s₁ B hml hv
  obtain ⟨rfl, hsz, hP, hD0, hX⟩ := hv
  have hx := B.exec
  have hb := B.bytes
  have hr := B.returns
  have hts := atoms_spec (ws := wsX5_turn) B.pre
  have hown : s.vm.findClass RX5 = some m.cls := findClass_of_methodNamed B.named
  have hlocks := B.notSynchronized
  subst hsz
  have hD := hD0.self (sz := s.heap.size)
  generalize hAe : va_A [(m0, .inr (5, [.int 0, .int 0, .ref kO, .ref lO, .int 0, .int 0, .int 0, .ref sC, .ref sW, .ref sD, .int 0, .ref pG, .int 0, .int 0, .ref wO, .ref fO, .ref mO, .ref cO, .long 0, .ref th, .int 0, .int 0, .int 0, .int 0, .ref kK, .ref kL, .ref kC, .ref kW, .ref kD, .long 0]))] s.heap.size = A at hD hX ⊢
  have hA : ∀ q : Nat, s.heap.size ≤ q → A q := fun q h => by rw [← hAe]; exact Or.inr h
  obtain ⟨H, hH⟩ : ∃ H : Heap, H = s.heap := ⟨_, rfl⟩
  have hS : va_S A s.heap H [] := hH ▸ va_S.rf
  have hK := hX.1
  have hP : va_P D vwCl [(m0, .inr (5, [.int 0, .int 0, .ref kO, .ref lO, .int 0, .int 0, .int 0, .ref sC, .ref sW, .ref sD, .int 0, .ref pG, .int 0, .int 0, .ref wO, .ref fO, .ref mO, .ref cO, .long 0, .ref th, .int 0, .int 0, .int 0, .int 0, .ref kK, .ref kL, .ref kC, .ref kW, .ref kD, .long 0]))] H := hH ▸ hP
  rw [← hH]
  have hl := lv_entry ([.ref m0, .int x_c, .int x_t]) (n := 3) (Nat.le_of_ble_eq_true rfl)
  rw [lg_entry_eq]
  generalize (lg_sl ([.ref m0, .int x_c, .int x_t]) ++ List.replicate (3 - (lg_sl ([.ref m0, .int x_c, .int x_t])).length) Slot.unset).toArray = ls at hl ⊢
  have hl : lv_has ls 3 [(0, .ref m0), (1, .int x_c), (2, .int x_t)] := hl
  refine lv_aload_n hx hb dX5_turn_0 rfl (lv_at hl 0 rfl) ?_
  refine lv_iload_n hx hb dX5_turn_1 rfl (lv_at hl 1 rfl) ?_
  refine kc_i (wc := [(m0, .inr (5, [.int 0, .int 0, .ref kO, .ref lO, .int 0, .int 0, .int 0, .ref sC, .ref sW, .ref sD, .int 0, .ref pG, .int 0, .int 0, .ref wO, .ref fO, .ref mO, .ref cO, .long 0, .ref th, .int 0, .int 0, .int 0, .int 0, .ref kK, .ref kL, .ref kC, .ref kW, .ref kD, .long 0]))]) (wr := []) (va_runV (As := [.int x_c]) (rest := []) ⟨hx, hb, hml, hown, hts⟩ (c_X5_isCube l D cy H.size m0 kO lO sC sW sD pG wO fO mO cO th kK kL kC kW kD x_c ) (cwV 1 hts gX5_turn_X5_isCube rfl rfl rfl (by decide +kernel) ⟨Nat.le_of_ble_eq_true rfl, Nat.le_of_ble_eq_true rfl⟩) (cpre_V (wc := [(m0, .inr (5, [.int 0, .int 0, .ref kO, .ref lO, .int 0, .int 0, .int 0, .ref sC, .ref sW, .ref sD, .int 0, .ref pG, .int 0, .int 0, .ref wO, .ref fO, .ref mO, .ref cO, .long 0, .ref th, .int 0, .int 0, .int 0, .int 0, .ref kK, .ref kL, .ref kC, .ref kW, .ref kD, .long 0]))]) 0 5 rfl rfl hX hP hD hS hA [0] (by decide +kernel) rfl) rfl rfl hl.1 rfl (lv_room (Nat.le_of_ble_eq_true rfl)) dX5_turn_2 ⟨Nat.le_of_ble_eq_true rfl, Nat.le_of_ble_eq_true rfl⟩) hP hD hS hA [0] [] rfl rfl (by decide +kernel) (by decide +kernel) (fun ri u1 H locs hw hP hD hS => ?_)
  obtain ⟨hu, hri⟩ := hw
  subst hu
  have hP : va_P D vwCl [(m0, .inr (5, [.int 0, .int 0, .ref kO, .ref lO, .int 0, .int 0, .int 0, .ref sC, .ref sW, .ref sD, .int 0, .ref pG, .int 0, .int 0, .ref wO, .ref fO, .ref mO, .ref cO, .long 0, .ref th, .int 0, .int 0, .int 0, .int 0, .ref kK, .ref kL, .ref kC, .ref kW, .ref kD, .long 0]))] H := hP
  have hD : va_D A [(m0, .inr (5, [.int 0, .int 0, .ref kO, .ref lO, .int 0, .int 0, .int 0, .ref sC, .ref sW, .ref sD, .int 0, .ref pG, .int 0, .int 0, .ref wO, .ref fO, .ref mO, .ref cO, .long 0, .ref th, .int 0, .int 0, .int 0, .int 0, .ref kK, .ref kL, .ref kC, .ref kW, .ref kD, .long 0]))] := hD
  subst hri
  refine lv_if_ne (tgt := 11) hx hb dX5_turn_5 (by decide) (fun c_5 => ?_) (fun c_5 => ?_)
  · exact absurd c_5 (by decide)
  · refine lv_bipush (v := (-101)) hx hb dX5_turn_8 (by decide) ?_
    have hP9 := hP.sub (ws' := [(m0, .inr (5, [.int 0, .int 0, .ref kO, .ref lO, .int 0, .int 0, .int 0, .ref sC, .ref sW, .ref sD, .int 0, .ref pG, .int 0, .int 0, .ref wO, .ref fO, .ref mO, .ref cO, .long 0, .ref th, .int 0, .int 0, .int 0, .int 0, .ref kK, .ref kL, .ref kC, .ref kW, .ref kD, .long 0]))]) [0] rfl
    have hD9 := hD.sub (ws' := [(m0, .inr (5, [.int 0, .int 0, .ref kO, .ref lO, .int 0, .int 0, .int 0, .ref sC, .ref sW, .ref sD, .int 0, .ref pG, .int 0, .int 0, .ref wO, .ref fO, .ref mO, .ref cO, .long 0, .ref th, .int 0, .int 0, .int 0, .int 0, .ref kK, .ref kL, .ref kC, .ref kW, .ref kD, .long 0]))]) [0] (by decide +kernel) rfl
    exact W.iret (v := (-101)) hx hb hr (fun t9 ht9 hW9 => ⟨⟨(-101), [(m0, .inr (5, [.int 0, .int 0, .ref kO, .ref lO, .int 0, .int 0, .int 0, .ref sC, .ref sW, .ref sD, .int 0, .ref pG, .int 0, .int 0, .ref wO, .ref fO, .ref mO, .ref cO, .long 0, .ref th, .int 0, .int 0, .int 0, .int 0, .ref kK, .ref kL, .ref kC, .ref kW, .ref kD, .long 0]))], rfl, ⟨rfl, rfl⟩, by rw [ht9]; exact hP9, hD9⟩, hS.F ht9⟩) hS.2.2 dX5_turn_10
def q_X5_paint (cy : Nat → ClassId) (m0 : Nat) (kO : Nat) (lO : Nat) (sC : Nat) (sW : Nat) (sD : Nat) (pG : Nat) (wO : Nat) (fO : Nat) (mO : Nat) (cO : Nat) (th : Nat) (kK : Nat) (kL : Nat) (kC : Nat) (kW : Nat) (kD : Nat) (x_c : Int32) (x_s : Int32) (x_k : Int32) : Int32 → va_W → Prop := fun (r : Int32) (u : va_W) => u = [(m0, .inr (5, [.int 0, .int 0, .ref kO, .ref lO, .int 0, .int 0, .int 0, .ref sC, .ref sW, .ref sD, .int 0, .ref pG, .int 0, .int 0, .ref wO, .ref fO, .ref mO, .ref cO, .long 0, .ref th, .int 0, .int 0, .int 0, .int 0, .ref kK, .ref kL, .ref kC, .ref kW, .ref kD, .long 0]))] ∧ r = -101
set_option maxHeartbeats 4000000 in
set_option maxRecDepth 100000 in
theorem c_X5_paint (l : Launch) (D : va_G) (cy : Nat → ClassId) (zz : Nat) (m0 : Nat) (kO : Nat) (lO : Nat) (sC : Nat) (sW : Nat) (sD : Nat) (pG : Nat) (wO : Nat) (fO : Nat) (mO : Nat) (cO : Nat) (th : Nat) (kK : Nat) (kL : Nat) (kC : Nat) (kW : Nat) (kD : Nat) (x_c : Int32) (x_s : Int32) (x_k : Int32) : Met l yX5_paint wsX5_paint ({ frames := 2, cells := 0, slots := 0, locals := 43 } : Room) (va_Pc [.ref m0, .int x_c, .int x_s, .int x_k] (cpre D cy [(m0, .inr (5, [.int 0, .int 0, .ref kO, .ref lO, .int 0, .int 0, .int 0, .ref sC, .ref sW, .ref sD, .int 0, .ref pG, .int 0, .int 0, .ref wO, .ref fO, .ref mO, .ref cO, .long 0, .ref th, .int 0, .int 0, .int 0, .int 0, .ref kK, .ref kL, .ref kC, .ref kW, .ref kD, .long 0]))] zz)) (va_Qi (q_X5_paint cy m0 kO lO sC sW sD pG wO fO mO cO th kK kL kC kW kD x_c x_s x_k) (cpost D (va_A [(m0, .inr (5, [.int 0, .int 0, .ref kO, .ref lO, .int 0, .int 0, .int 0, .ref sC, .ref sW, .ref sD, .int 0, .ref pG, .int 0, .int 0, .ref wO, .ref fO, .ref mO, .ref cO, .long 0, .ref th, .int 0, .int 0, .int 0, .int 0, .ref kK, .ref kL, .ref kC, .ref kW, .ref kD, .long 0]))] zz)) (va_A [(m0, .inr (5, [.int 0, .int 0, .ref kO, .ref lO, .int 0, .int 0, .int 0, .ref sC, .ref sW, .ref sD, .int 0, .ref pG, .int 0, .int 0, .ref wO, .ref fO, .ref mO, .ref cO, .long 0, .ref th, .int 0, .int 0, .int 0, .int 0, .ref kK, .ref kL, .ref kC, .ref kW, .ref kD, .long 0]))] zz)) 0 0 (va_A [(m0, .inr (5, [.int 0, .int 0, .ref kO, .ref lO, .int 0, .int 0, .int 0, .ref sC, .ref sW, .ref sD, .int 0, .ref pG, .int 0, .int 0, .ref wO, .ref fO, .ref mO, .ref cO, .long 0, .ref th, .int 0, .int 0, .int 0, .int 0, .ref kK, .ref kL, .ref kC, .ref kW, .ref kD, .long 0]))] zz) := by
  refine Met.ofW (cc := cX5_paint) (maxL := 5) (ret := (some .int)) (by decide) rfl ?_
  intro p e s m args below meth c s₁ B hml hv
  obtain ⟨rfl, hsz, hP, hD0, hX⟩ := hv
  have hx := B.exec
  have hb := B.bytes
  have hr := B.returns
  have hts := atoms_spec (ws := wsX5_paint) B.pre
  have hown : s.vm.findClass RX5 = some m.cls := findClass_of_methodNamed B.named
  have hlocks := B.notSynchronized
  subst hsz
  have hD := hD0.self (sz := s.heap.size)
  generalize hAe : va_A [(m0, .inr (5, [.int 0, .int 0, .ref kO, .ref lO, .int 0, .int 0, .int 0, .ref sC, .ref sW, .ref sD, .int 0, .ref pG, .int 0, .int 0, .ref wO, .ref fO, .ref mO, .ref cO, .long 0, .ref th, .int 0, .int 0, .int 0, .int 0, .ref kK, .ref kL, .ref kC, .ref kW, .ref kD, .long 0]))] s.heap.size = A at hD hX ⊢
  have hA : ∀ q : Nat, s.heap.size ≤ q → A q := fun q h => by rw [← hAe]; exact Or.inr h
  obtain ⟨H, hH⟩ : ∃ H : Heap, H = s.heap := ⟨_, rfl⟩
  have hS : va_S A s.heap H [] := hH ▸ va_S.rf
  have hK := hX.1
  have hP : va_P D vwCl [(m0, .inr (5, [.int 0, .int 0, .ref kO, .ref lO, .int 0, .int 0, .int 0, .ref sC, .ref sW, .ref sD, .int 0, .ref pG, .int 0, .int 0, .ref wO, .ref fO, .ref mO, .ref cO, .long 0, .ref th, .int 0, .int 0, .int 0, .int 0, .ref kK, .ref kL, .ref kC, .ref kW, .ref kD, .long 0]))] H := hH ▸ hP
  rw [← hH]
  have hl := lv_entry ([.ref m0, .int x_c, .int x_s, .int x_k]) (n := 5) (Nat.le_of_ble_eq_true rfl)
  rw [lg_entry_eq]
  generalize (lg_sl ([.ref m0, .int x_c, .int x_s, .int x_k]) ++ List.replicate (5 - (lg_sl ([.ref m0, .int x_c, .int x_s, .int x_k])).length) Slot.unset).toArray = ls at hl ⊢
  have hl : lv_has ls 5 [(0, .ref m0), (1, .int x_c), (2, .int x_s), (3, .int x_k)] := hl
  refine lv_aload_n hx hb dX5_paint_0 rfl (lv_at hl 0 rfl) ?_
  refine lv_iload_n hx hb dX5_paint_1 rfl (lv_at hl 1 rfl) ?_
  refine kc_i (wc := [(m0, .inr (5, [.int 0, .int 0, .ref kO, .ref lO, .int 0, .int 0, .int 0, .ref sC, .ref sW, .ref sD, .int 0, .ref pG, .int 0, .int 0, .ref wO, .ref fO, .ref mO, .ref cO, .long 0, .ref th, .int 0, .int 0, .int 0, .int 0, .ref kK, .ref kL, .ref kC, .ref kW, .ref kD, .long 0]))]) (wr := []) (va_runV (As := [.int x_c]) (rest := []) ⟨hx, hb, hml, hown, hts⟩ (c_X5_isCube l D cy H.size m0 kO lO sC sW sD pG wO fO mO cO th kK kL kC kW kD x_c ) (cwV 1 hts gX5_paint_X5_isCube rfl rfl rfl (by decide +kernel) ⟨Nat.le_of_ble_eq_true rfl, Nat.le_of_ble_eq_true rfl⟩) (cpre_V (wc := [(m0, .inr (5, [.int 0, .int 0, .ref kO, .ref lO, .int 0, .int 0, .int 0, .ref sC, .ref sW, .ref sD, .int 0, .ref pG, .int 0, .int 0, .ref wO, .ref fO, .ref mO, .ref cO, .long 0, .ref th, .int 0, .int 0, .int 0, .int 0, .ref kK, .ref kL, .ref kC, .ref kW, .ref kD, .long 0]))]) 0 5 rfl rfl hX hP hD hS hA [0] (by decide +kernel) rfl) rfl rfl hl.1 rfl (lv_room (Nat.le_of_ble_eq_true rfl)) dX5_paint_2 ⟨Nat.le_of_ble_eq_true rfl, Nat.le_of_ble_eq_true rfl⟩) hP hD hS hA [0] [] rfl rfl (by decide +kernel) (by decide +kernel) (fun ri u1 H locs hw hP hD hS => ?_)
  obtain ⟨hu, hri⟩ := hw
  subst hu
  have hP : va_P D vwCl [(m0, .inr (5, [.int 0, .int 0, .ref kO, .ref lO, .int 0, .int 0, .int 0, .ref sC, .ref sW, .ref sD, .int 0, .ref pG, .int 0, .int 0, .ref wO, .ref fO, .ref mO, .ref cO, .long 0, .ref th, .int 0, .int 0, .int 0, .int 0, .ref kK, .ref kL, .ref kC, .ref kW, .ref kD, .long 0]))] H := hP
  have hD : va_D A [(m0, .inr (5, [.int 0, .int 0, .ref kO, .ref lO, .int 0, .int 0, .int 0, .ref sC, .ref sW, .ref sD, .int 0, .ref pG, .int 0, .int 0, .ref wO, .ref fO, .ref mO, .ref cO, .long 0, .ref th, .int 0, .int 0, .int 0, .int 0, .ref kK, .ref kL, .ref kC, .ref kW, .ref kD, .long 0]))] := hD
  subst hri
  refine lv_if_eq (tgt := 17) hx hb dX5_paint_5 (by decide) (fun c_5 => ?_) (fun c_5 => ?_)
  · refine lv_bipush (v := (-101)) hx hb dX5_paint_17 (by decide) ?_
    have hP9 := hP.sub (ws' := [(m0, .inr (5, [.int 0, .int 0, .ref kO, .ref lO, .int 0, .int 0, .int 0, .ref sC, .ref sW, .ref sD, .int 0, .ref pG, .int 0, .int 0, .ref wO, .ref fO, .ref mO, .ref cO, .long 0, .ref th, .int 0, .int 0, .int 0, .int 0, .ref kK, .ref kL, .ref kC, .ref kW, .ref kD, .long 0]))]) [0] rfl
    have hD9 := hD.sub (ws' := [(m0, .inr (5, [.int 0, .int 0, .ref kO, .ref lO, .int 0, .int 0, .int 0, .ref sC, .ref sW, .ref sD, .int 0, .ref pG, .int 0, .int 0, .ref wO, .ref fO, .ref mO, .ref cO, .long 0, .ref th, .int 0, .int 0, .int 0, .int 0, .ref kK, .ref kL, .ref kC, .ref kW, .ref kD, .long 0]))]) [0] (by decide +kernel) rfl
    exact W.iret (v := (-101)) hx hb hr (fun t9 ht9 hW9 => ⟨⟨(-101), [(m0, .inr (5, [.int 0, .int 0, .ref kO, .ref lO, .int 0, .int 0, .int 0, .ref sC, .ref sW, .ref sD, .int 0, .ref pG, .int 0, .int 0, .ref wO, .ref fO, .ref mO, .ref cO, .long 0, .ref th, .int 0, .int 0, .int 0, .int 0, .ref kK, .ref kL, .ref kC, .ref kW, .ref kD, .long 0]))], rfl, ⟨rfl, rfl⟩, by rw [ht9]; exact hP9, hD9⟩, hS.F ht9⟩) hS.2.2 dX5_paint_19
  · exact absurd c_5 (by decide)
def q_X5_swap (cy : Nat → ClassId) (m0 : Nat) (kO : Nat) (lO : Nat) (sC : Nat) (sW : Nat) (sD : Nat) (pG : Nat) (wO : Nat) (fO : Nat) (mO : Nat) (cO : Nat) (th : Nat) (kK : Nat) (kL : Nat) (kC : Nat) (kW : Nat) (kD : Nat) (x_a : Int32) (x_b : Int32) : Int32 → va_W → Prop := fun (r : Int32) (u : va_W) => u = [(m0, .inr (5, [.int 0, .int 0, .ref kO, .ref lO, .int 0, .int 0, .int 0, .ref sC, .ref sW, .ref sD, .int 0, .ref pG, .int 0, .int 0, .ref wO, .ref fO, .ref mO, .ref cO, .long 0, .ref th, .int 0, .int 0, .int 0, .int 0, .ref kK, .ref kL, .ref kC, .ref kW, .ref kD, .long 0]))] ∧ r = -101
set_option maxHeartbeats 4000000 in
set_option maxRecDepth 100000 in
theorem c_X5_swap (l : Launch) (D : va_G) (cy : Nat → ClassId) (zz : Nat) (m0 : Nat) (kO : Nat) (lO : Nat) (sC : Nat) (sW : Nat) (sD : Nat) (pG : Nat) (wO : Nat) (fO : Nat) (mO : Nat) (cO : Nat) (th : Nat) (kK : Nat) (kL : Nat) (kC : Nat) (kW : Nat) (kD : Nat) (x_a : Int32) (x_b : Int32) : Met l yX5_swap wsX5_swap ({ frames := 2, cells := 0, slots := 0, locals := 43 } : Room) (va_Pc [.ref m0, .int x_a, .int x_b] (cpre D cy [(m0, .inr (5, [.int 0, .int 0, .ref kO, .ref lO, .int 0, .int 0, .int 0, .ref sC, .ref sW, .ref sD, .int 0, .ref pG, .int 0, .int 0, .ref wO, .ref fO, .ref mO, .ref cO, .long 0, .ref th, .int 0, .int 0, .int 0, .int 0, .ref kK, .ref kL, .ref kC, .ref kW, .ref kD, .long 0]))] zz)) (va_Qi (q_X5_swap cy m0 kO lO sC sW sD pG wO fO mO cO th kK kL kC kW kD x_a x_b) (cpost D (va_A [(m0, .inr (5, [.int 0, .int 0, .ref kO, .ref lO, .int 0, .int 0, .int 0, .ref sC, .ref sW, .ref sD, .int 0, .ref pG, .int 0, .int 0, .ref wO, .ref fO, .ref mO, .ref cO, .long 0, .ref th, .int 0, .int 0, .int 0, .int 0, .ref kK, .ref kL, .ref kC, .ref kW, .ref kD, .long 0]))] zz)) (va_A [(m0, .inr (5, [.int 0, .int 0, .ref kO, .ref lO, .int 0, .int 0, .int 0, .ref sC, .ref sW, .ref sD, .int 0, .ref pG, .int 0, .int 0, .ref wO, .ref fO, .ref mO, .ref cO, .long 0, .ref th, .int 0, .int 0, .int 0, .int 0, .ref kK, .ref kL, .ref kC, .ref kW, .ref kD, .long 0]))] zz)) 0 0 (va_A [(m0, .inr (5, [.int 0, .int 0, .ref kO, .ref lO, .int 0, .int 0, .int 0, .ref sC, .ref sW, .ref sD, .int 0, .ref pG, .int 0, .int 0, .ref wO, .ref fO, .ref mO, .ref cO, .long 0, .ref th, .int 0, .int 0, .int 0, .int 0, .ref kK, .ref kL, .ref kC, .ref kW, .ref kD, .long 0]))] zz) := by
  refine Met.ofW (cc := cX5_swap) (maxL := 5) (ret := (some .int)) (by decide) rfl ?_
  intro p e s m args below meth c s₁ B hml hv
  obtain ⟨rfl, hsz, hP, hD0, hX⟩ := hv
  have hx := B.exec
  have hb := B.bytes
  have hr := B.returns
  have hts := atoms_spec (ws := wsX5_swap) B.pre
  have hown : s.vm.findClass RX5 = some m.cls := findClass_of_methodNamed B.named
  have hlocks := B.notSynchronized
  subst hsz
  have hD := hD0.self (sz := s.heap.size)
  generalize hAe : va_A [(m0, .inr (5, [.int 0, .int 0, .ref kO, .ref lO, .int 0, .int 0, .int 0, .ref sC, .ref sW, .ref sD, .int 0, .ref pG, .int 0, .int 0, .ref wO, .ref fO, .ref mO, .ref cO, .long 0, .ref th, .int 0, .int 0, .int 0, .int 0, .ref kK, .ref kL, .ref kC, .ref kW, .ref kD, .long 0]))] s.heap.size = A at hD hX ⊢
  have hA : ∀ q : Nat, s.heap.size ≤ q → A q := fun q h => by rw [← hAe]; exact Or.inr h
  obtain ⟨H, hH⟩ : ∃ H : Heap, H = s.heap := ⟨_, rfl⟩
  have hS : va_S A s.heap H [] := hH ▸ va_S.rf
  have hK := hX.1
  have hP : va_P D vwCl [(m0, .inr (5, [.int 0, .int 0, .ref kO, .ref lO, .int 0, .int 0, .int 0, .ref sC, .ref sW, .ref sD, .int 0, .ref pG, .int 0, .int 0, .ref wO, .ref fO, .ref mO, .ref cO, .long 0, .ref th, .int 0, .int 0, .int 0, .int 0, .ref kK, .ref kL, .ref kC, .ref kW, .ref kD, .long 0]))] H := hH ▸ hP
  rw [← hH]
  have hl := lv_entry ([.ref m0, .int x_a, .int x_b]) (n := 5) (Nat.le_of_ble_eq_true rfl)
  rw [lg_entry_eq]
  generalize (lg_sl ([.ref m0, .int x_a, .int x_b]) ++ List.replicate (5 - (lg_sl ([.ref m0, .int x_a, .int x_b])).length) Slot.unset).toArray = ls at hl ⊢
  have hl : lv_has ls 5 [(0, .ref m0), (1, .int x_a), (2, .int x_b)] := hl
  refine lv_aload_n hx hb dX5_swap_0 rfl (lv_at hl 0 rfl) ?_
  refine lv_iload_n hx hb dX5_swap_1 rfl (lv_at hl 1 rfl) ?_
  refine kc_i (wc := [(m0, .inr (5, [.int 0, .int 0, .ref kO, .ref lO, .int 0, .int 0, .int 0, .ref sC, .ref sW, .ref sD, .int 0, .ref pG, .int 0, .int 0, .ref wO, .ref fO, .ref mO, .ref cO, .long 0, .ref th, .int 0, .int 0, .int 0, .int 0, .ref kK, .ref kL, .ref kC, .ref kW, .ref kD, .long 0]))]) (wr := []) (va_runV (As := [.int x_a]) (rest := []) ⟨hx, hb, hml, hown, hts⟩ (c_X5_isCube l D cy H.size m0 kO lO sC sW sD pG wO fO mO cO th kK kL kC kW kD x_a ) (cwV 1 hts gX5_swap_X5_isCube rfl rfl rfl (by decide +kernel) ⟨Nat.le_of_ble_eq_true rfl, Nat.le_of_ble_eq_true rfl⟩) (cpre_V (wc := [(m0, .inr (5, [.int 0, .int 0, .ref kO, .ref lO, .int 0, .int 0, .int 0, .ref sC, .ref sW, .ref sD, .int 0, .ref pG, .int 0, .int 0, .ref wO, .ref fO, .ref mO, .ref cO, .long 0, .ref th, .int 0, .int 0, .int 0, .int 0, .ref kK, .ref kL, .ref kC, .ref kW, .ref kD, .long 0]))]) 0 5 rfl rfl hX hP hD hS hA [0] (by decide +kernel) rfl) rfl rfl hl.1 rfl (lv_room (Nat.le_of_ble_eq_true rfl)) dX5_swap_2 ⟨Nat.le_of_ble_eq_true rfl, Nat.le_of_ble_eq_true rfl⟩) hP hD hS hA [0] [] rfl rfl (by decide +kernel) (by decide +kernel) (fun ri u1 H locs hw hP hD hS => ?_)
  obtain ⟨hu, hri⟩ := hw
  subst hu
  have hP : va_P D vwCl [(m0, .inr (5, [.int 0, .int 0, .ref kO, .ref lO, .int 0, .int 0, .int 0, .ref sC, .ref sW, .ref sD, .int 0, .ref pG, .int 0, .int 0, .ref wO, .ref fO, .ref mO, .ref cO, .long 0, .ref th, .int 0, .int 0, .int 0, .int 0, .ref kK, .ref kL, .ref kC, .ref kW, .ref kD, .long 0]))] H := hP
  have hD : va_D A [(m0, .inr (5, [.int 0, .int 0, .ref kO, .ref lO, .int 0, .int 0, .int 0, .ref sC, .ref sW, .ref sD, .int 0, .ref pG, .int 0, .int 0, .ref wO, .ref fO, .ref mO, .ref cO, .long 0, .ref th, .int 0, .int 0, .int 0, .int 0, .ref kK, .ref kL, .ref kC, .ref kW, .ref kD, .long 0]))] := hD
  subst hri
  refine lv_if_eq (tgt := 21) hx hb dX5_swap_5 (by decide) (fun c_5 => ?_) (fun c_5 => ?_)
  · refine lv_bipush (v := (-101)) hx hb dX5_swap_21 (by decide) ?_
    have hP9 := hP.sub (ws' := [(m0, .inr (5, [.int 0, .int 0, .ref kO, .ref lO, .int 0, .int 0, .int 0, .ref sC, .ref sW, .ref sD, .int 0, .ref pG, .int 0, .int 0, .ref wO, .ref fO, .ref mO, .ref cO, .long 0, .ref th, .int 0, .int 0, .int 0, .int 0, .ref kK, .ref kL, .ref kC, .ref kW, .ref kD, .long 0]))]) [0] rfl
    have hD9 := hD.sub (ws' := [(m0, .inr (5, [.int 0, .int 0, .ref kO, .ref lO, .int 0, .int 0, .int 0, .ref sC, .ref sW, .ref sD, .int 0, .ref pG, .int 0, .int 0, .ref wO, .ref fO, .ref mO, .ref cO, .long 0, .ref th, .int 0, .int 0, .int 0, .int 0, .ref kK, .ref kL, .ref kC, .ref kW, .ref kD, .long 0]))]) [0] (by decide +kernel) rfl
    exact W.iret (v := (-101)) hx hb hr (fun t9 ht9 hW9 => ⟨⟨(-101), [(m0, .inr (5, [.int 0, .int 0, .ref kO, .ref lO, .int 0, .int 0, .int 0, .ref sC, .ref sW, .ref sD, .int 0, .ref pG, .int 0, .int 0, .ref wO, .ref fO, .ref mO, .ref cO, .long 0, .ref th, .int 0, .int 0, .int 0, .int 0, .ref kK, .ref kL, .ref kC, .ref kW, .ref kD, .long 0]))], rfl, ⟨rfl, rfl⟩, by rw [ht9]; exact hP9, hD9⟩, hS.F ht9⟩) hS.2.2 dX5_swap_23
  · exact absurd c_5 (by decide)
def q_X5_be (cy : Nat → ClassId) (m0 : Nat) (kO : Nat) (lO : Nat) (sC : Nat) (sW : Nat) (sD : Nat) (pG : Nat) (wO : Nat) (fO : Nat) (mO : Nat) (cO : Nat) (th : Nat) (kK : Nat) (kL : Nat) (kC : Nat) (kW : Nat) (kD : Nat) (x_c : Int32) (x_k : Int32) : Int32 → va_W → Prop := fun (r : Int32) (u : va_W) => u = [(m0, .inr (5, [.int 0, .int 0, .ref kO, .ref lO, .int 0, .int 0, .int 0, .ref sC, .ref sW, .ref sD, .int 0, .ref pG, .int 0, .int 0, .ref wO, .ref fO, .ref mO, .ref cO, .long 0, .ref th, .int 0, .int 0, .int 0, .int 0, .ref kK, .ref kL, .ref kC, .ref kW, .ref kD, .long 0]))] ∧ r = -101
set_option maxHeartbeats 4000000 in
set_option maxRecDepth 100000 in
theorem c_X5_be (l : Launch) (D : va_G) (cy : Nat → ClassId) (zz : Nat) (m0 : Nat) (kO : Nat) (lO : Nat) (sC : Nat) (sW : Nat) (sD : Nat) (pG : Nat) (wO : Nat) (fO : Nat) (mO : Nat) (cO : Nat) (th : Nat) (kK : Nat) (kL : Nat) (kC : Nat) (kW : Nat) (kD : Nat) (x_c : Int32) (x_k : Int32) : Met l yX5_be wsX5_be ({ frames := 2, cells := 0, slots := 0, locals := 43 } : Room) (va_Pc [.ref m0, .int x_c, .int x_k] (cpre D cy [(m0, .inr (5, [.int 0, .int 0, .ref kO, .ref lO, .int 0, .int 0, .int 0, .ref sC, .ref sW, .ref sD, .int 0, .ref pG, .int 0, .int 0, .ref wO, .ref fO, .ref mO, .ref cO, .long 0, .ref th, .int 0, .int 0, .int 0, .int 0, .ref kK, .ref kL, .ref kC, .ref kW, .ref kD, .long 0]))] zz)) (va_Qi (q_X5_be cy m0 kO lO sC sW sD pG wO fO mO cO th kK kL kC kW kD x_c x_k) (cpost D (va_A [(m0, .inr (5, [.int 0, .int 0, .ref kO, .ref lO, .int 0, .int 0, .int 0, .ref sC, .ref sW, .ref sD, .int 0, .ref pG, .int 0, .int 0, .ref wO, .ref fO, .ref mO, .ref cO, .long 0, .ref th, .int 0, .int 0, .int 0, .int 0, .ref kK, .ref kL, .ref kC, .ref kW, .ref kD, .long 0]))] zz)) (va_A [(m0, .inr (5, [.int 0, .int 0, .ref kO, .ref lO, .int 0, .int 0, .int 0, .ref sC, .ref sW, .ref sD, .int 0, .ref pG, .int 0, .int 0, .ref wO, .ref fO, .ref mO, .ref cO, .long 0, .ref th, .int 0, .int 0, .int 0, .int 0, .ref kK, .ref kL, .ref kC, .ref kW, .ref kD, .long 0]))] zz)) 0 0 (va_A [(m0, .inr (5, [.int 0, .int 0, .ref kO, .ref lO, .int 0, .int 0, .int 0, .ref sC, .ref sW, .ref sD, .int 0, .ref pG, .int 0, .int 0, .ref wO, .ref fO, .ref mO, .ref cO, .long 0, .ref th, .int 0, .int 0, .int 0, .int 0, .ref kK, .ref kL, .ref kC, .ref kW, .ref kD, .long 0]))] zz) := by
  refine Met.ofW (cc := cX5_be) (maxL := 4) (ret := (some .int)) (by decide) rfl ?_
  intro p e s m args below meth c s₁ B hml hv
  obtain ⟨rfl, hsz, hP, hD0, hX⟩ := hv
  have hx := B.exec
  have hb := B.bytes
  have hr := B.returns
  have hts := atoms_spec (ws := wsX5_be) B.pre
  have hown : s.vm.findClass RX5 = some m.cls := findClass_of_methodNamed B.named
  have hlocks := B.notSynchronized
  subst hsz
  have hD := hD0.self (sz := s.heap.size)
  generalize hAe : va_A [(m0, .inr (5, [.int 0, .int 0, .ref kO, .ref lO, .int 0, .int 0, .int 0, .ref sC, .ref sW, .ref sD, .int 0, .ref pG, .int 0, .int 0, .ref wO, .ref fO, .ref mO, .ref cO, .long 0, .ref th, .int 0, .int 0, .int 0, .int 0, .ref kK, .ref kL, .ref kC, .ref kW, .ref kD, .long 0]))] s.heap.size = A at hD hX ⊢
  have hA : ∀ q : Nat, s.heap.size ≤ q → A q := fun q h => by rw [← hAe]; exact Or.inr h
  obtain ⟨H, hH⟩ : ∃ H : Heap, H = s.heap := ⟨_, rfl⟩
  have hS : va_S A s.heap H [] := hH ▸ va_S.rf
  have hK := hX.1
  have hP : va_P D vwCl [(m0, .inr (5, [.int 0, .int 0, .ref kO, .ref lO, .int 0, .int 0, .int 0, .ref sC, .ref sW, .ref sD, .int 0, .ref pG, .int 0, .int 0, .ref wO, .ref fO, .ref mO, .ref cO, .long 0, .ref th, .int 0, .int 0, .int 0, .int 0, .ref kK, .ref kL, .ref kC, .ref kW, .ref kD, .long 0]))] H := hH ▸ hP
  rw [← hH]
  have hl := lv_entry ([.ref m0, .int x_c, .int x_k]) (n := 4) (Nat.le_of_ble_eq_true rfl)
  rw [lg_entry_eq]
  generalize (lg_sl ([.ref m0, .int x_c, .int x_k]) ++ List.replicate (4 - (lg_sl ([.ref m0, .int x_c, .int x_k])).length) Slot.unset).toArray = ls at hl ⊢
  have hl : lv_has ls 4 [(0, .ref m0), (1, .int x_c), (2, .int x_k)] := hl
  refine lv_aload_n hx hb dX5_be_0 rfl (lv_at hl 0 rfl) ?_
  refine lv_iload_n hx hb dX5_be_1 rfl (lv_at hl 1 rfl) ?_
  refine kc_i (wc := [(m0, .inr (5, [.int 0, .int 0, .ref kO, .ref lO, .int 0, .int 0, .int 0, .ref sC, .ref sW, .ref sD, .int 0, .ref pG, .int 0, .int 0, .ref wO, .ref fO, .ref mO, .ref cO, .long 0, .ref th, .int 0, .int 0, .int 0, .int 0, .ref kK, .ref kL, .ref kC, .ref kW, .ref kD, .long 0]))]) (wr := []) (va_runV (As := [.int x_c]) (rest := []) ⟨hx, hb, hml, hown, hts⟩ (c_X5_isCube l D cy H.size m0 kO lO sC sW sD pG wO fO mO cO th kK kL kC kW kD x_c ) (cwV 1 hts gX5_be_X5_isCube rfl rfl rfl (by decide +kernel) ⟨Nat.le_of_ble_eq_true rfl, Nat.le_of_ble_eq_true rfl⟩) (cpre_V (wc := [(m0, .inr (5, [.int 0, .int 0, .ref kO, .ref lO, .int 0, .int 0, .int 0, .ref sC, .ref sW, .ref sD, .int 0, .ref pG, .int 0, .int 0, .ref wO, .ref fO, .ref mO, .ref cO, .long 0, .ref th, .int 0, .int 0, .int 0, .int 0, .ref kK, .ref kL, .ref kC, .ref kW, .ref kD, .long 0]))]) 0 5 rfl rfl hX hP hD hS hA [0] (by decide +kernel) rfl) rfl rfl hl.1 rfl (lv_room (Nat.le_of_ble_eq_true rfl)) dX5_be_2 ⟨Nat.le_of_ble_eq_true rfl, Nat.le_of_ble_eq_true rfl⟩) hP hD hS hA [0] [] rfl rfl (by decide +kernel) (by decide +kernel) (fun ri u1 H locs hw hP hD hS => ?_)
  obtain ⟨hu, hri⟩ := hw
  subst hu
  have hP : va_P D vwCl [(m0, .inr (5, [.int 0, .int 0, .ref kO, .ref lO, .int 0, .int 0, .int 0, .ref sC, .ref sW, .ref sD, .int 0, .ref pG, .int 0, .int 0, .ref wO, .ref fO, .ref mO, .ref cO, .long 0, .ref th, .int 0, .int 0, .int 0, .int 0, .ref kK, .ref kL, .ref kC, .ref kW, .ref kD, .long 0]))] H := hP
  have hD : va_D A [(m0, .inr (5, [.int 0, .int 0, .ref kO, .ref lO, .int 0, .int 0, .int 0, .ref sC, .ref sW, .ref sD, .int 0, .ref pG, .int 0, .int 0, .ref wO, .ref fO, .ref mO, .ref cO, .long 0, .ref th, .int 0, .int 0, .int 0, .int 0, .ref kK, .ref kL, .ref kC, .ref kW, .ref kD, .long 0]))] := hD
  subst hri
  refine lv_if_ne (tgt := 11) hx hb dX5_be_5 (by decide) (fun c_5 => ?_) (fun c_5 => ?_)
  · exact absurd c_5 (by decide)
  · refine lv_bipush (v := (-101)) hx hb dX5_be_8 (by decide) ?_
    have hP9 := hP.sub (ws' := [(m0, .inr (5, [.int 0, .int 0, .ref kO, .ref lO, .int 0, .int 0, .int 0, .ref sC, .ref sW, .ref sD, .int 0, .ref pG, .int 0, .int 0, .ref wO, .ref fO, .ref mO, .ref cO, .long 0, .ref th, .int 0, .int 0, .int 0, .int 0, .ref kK, .ref kL, .ref kC, .ref kW, .ref kD, .long 0]))]) [0] rfl
    have hD9 := hD.sub (ws' := [(m0, .inr (5, [.int 0, .int 0, .ref kO, .ref lO, .int 0, .int 0, .int 0, .ref sC, .ref sW, .ref sD, .int 0, .ref pG, .int 0, .int 0, .ref wO, .ref fO, .ref mO, .ref cO, .long 0, .ref th, .int 0, .int 0, .int 0, .int 0, .ref kK, .ref kL, .ref kC, .ref kW, .ref kD, .long 0]))]) [0] (by decide +kernel) rfl
    exact W.iret (v := (-101)) hx hb hr (fun t9 ht9 hW9 => ⟨⟨(-101), [(m0, .inr (5, [.int 0, .int 0, .ref kO, .ref lO, .int 0, .int 0, .int 0, .ref sC, .ref sW, .ref sD, .int 0, .ref pG, .int 0, .int 0, .ref wO, .ref fO, .ref mO, .ref cO, .long 0, .ref th, .int 0, .int 0, .int 0, .int 0, .ref kK, .ref kL, .ref kC, .ref kW, .ref kD, .long 0]))], rfl, ⟨rfl, rfl⟩, by rw [ht9]; exact hP9, hD9⟩, hS.F ht9⟩) hS.2.2 dX5_be_10
def q_X5_see (cy : Nat → ClassId) (m0 : Nat) (kO : Nat) (lO : Nat) (sC : Nat) (sW : Nat) (sD : Nat) (pG : Nat) (wO : Nat) (fO : Nat) (mO : Nat) (cO : Nat) (th : Nat) (kK : Nat) (kL : Nat) (kC : Nat) (kW : Nat) (kD : Nat) (x_c : Int32) (x_w : Int32) (x_b : Int32) : Int32 → va_W → Prop := fun (r : Int32) (u : va_W) => u = [(m0, .inr (5, [.int 0, .int 0, .ref kO, .ref lO, .int 0, .int 0, .int 0, .ref sC, .ref sW, .ref sD, .int 0, .ref pG, .int 0, .int 0, .ref wO, .ref fO, .ref mO, .ref cO, .long 0, .ref th, .int 0, .int 0, .int 0, .int 0, .ref kK, .ref kL, .ref kC, .ref kW, .ref kD, .long 0]))] ∧ r = -101
set_option maxHeartbeats 4000000 in
set_option maxRecDepth 100000 in
theorem c_X5_see (l : Launch) (D : va_G) (cy : Nat → ClassId) (zz : Nat) (m0 : Nat) (kO : Nat) (lO : Nat) (sC : Nat) (sW : Nat) (sD : Nat) (pG : Nat) (wO : Nat) (fO : Nat) (mO : Nat) (cO : Nat) (th : Nat) (kK : Nat) (kL : Nat) (kC : Nat) (kW : Nat) (kD : Nat) (x_c : Int32) (x_w : Int32) (x_b : Int32) : Met l yX5_see wsX5_see ({ frames := 2, cells := 0, slots := 0, locals := 43 } : Room) (va_Pc [.ref m0, .int x_c, .int x_w, .int x_b] (cpre D cy [(m0, .inr (5, [.int 0, .int 0, .ref kO, .ref lO, .int 0, .int 0, .int 0, .ref sC, .ref sW, .ref sD, .int 0, .ref pG, .int 0, .int 0, .ref wO, .ref fO, .ref mO, .ref cO, .long 0, .ref th, .int 0, .int 0, .int 0, .int 0, .ref kK, .ref kL, .ref kC, .ref kW, .ref kD, .long 0]))] zz)) (va_Qi (q_X5_see cy m0 kO lO sC sW sD pG wO fO mO cO th kK kL kC kW kD x_c x_w x_b) (cpost D (va_A [(m0, .inr (5, [.int 0, .int 0, .ref kO, .ref lO, .int 0, .int 0, .int 0, .ref sC, .ref sW, .ref sD, .int 0, .ref pG, .int 0, .int 0, .ref wO, .ref fO, .ref mO, .ref cO, .long 0, .ref th, .int 0, .int 0, .int 0, .int 0, .ref kK, .ref kL, .ref kC, .ref kW, .ref kD, .long 0]))] zz)) (va_A [(m0, .inr (5, [.int 0, .int 0, .ref kO, .ref lO, .int 0, .int 0, .int 0, .ref sC, .ref sW, .ref sD, .int 0, .ref pG, .int 0, .int 0, .ref wO, .ref fO, .ref mO, .ref cO, .long 0, .ref th, .int 0, .int 0, .int 0, .int 0, .ref kK, .ref kL, .ref kC, .ref kW, .ref kD, .long 0]))] zz)) 0 0 (va_A [(m0, .inr (5, [.int 0, .int 0, .ref kO, .ref lO, .int 0, .int 0, .int 0, .ref sC, .ref sW, .ref sD, .int 0, .ref pG, .int 0, .int 0, .ref wO, .ref fO, .ref mO, .ref cO, .long 0, .ref th, .int 0, .int 0, .int 0, .int 0, .ref kK, .ref kL, .ref kC, .ref kW, .ref kD, .long 0]))] zz) := by
  refine Met.ofW (cc := cX5_see) (maxL := 4) (ret := (some .int)) (by decide) rfl ?_
  intro p e s m args below meth c s₁ B hml hv
  obtain ⟨rfl, hsz, hP, hD0, hX⟩ := hv
  have hx := B.exec
  have hb := B.bytes
  have hr := B.returns
  have hts := atoms_spec (ws := wsX5_see) B.pre
  have hown : s.vm.findClass RX5 = some m.cls := findClass_of_methodNamed B.named
  have hlocks := B.notSynchronized
  subst hsz
  have hD := hD0.self (sz := s.heap.size)
  generalize hAe : va_A [(m0, .inr (5, [.int 0, .int 0, .ref kO, .ref lO, .int 0, .int 0, .int 0, .ref sC, .ref sW, .ref sD, .int 0, .ref pG, .int 0, .int 0, .ref wO, .ref fO, .ref mO, .ref cO, .long 0, .ref th, .int 0, .int 0, .int 0, .int 0, .ref kK, .ref kL, .ref kC, .ref kW, .ref kD, .long 0]))] s.heap.size = A at hD hX ⊢
  have hA : ∀ q : Nat, s.heap.size ≤ q → A q := fun q h => by rw [← hAe]; exact Or.inr h
  obtain ⟨H, hH⟩ : ∃ H : Heap, H = s.heap := ⟨_, rfl⟩
  have hS : va_S A s.heap H [] := hH ▸ va_S.rf
  have hK := hX.1
  have hP : va_P D vwCl [(m0, .inr (5, [.int 0, .int 0, .ref kO, .ref lO, .int 0, .int 0, .int 0, .ref sC, .ref sW, .ref sD, .int 0, .ref pG, .int 0, .int 0, .ref wO, .ref fO, .ref mO, .ref cO, .long 0, .ref th, .int 0, .int 0, .int 0, .int 0, .ref kK, .ref kL, .ref kC, .ref kW, .ref kD, .long 0]))] H := hH ▸ hP
  rw [← hH]
  have hl := lv_entry ([.ref m0, .int x_c, .int x_w, .int x_b]) (n := 4) (Nat.le_of_ble_eq_true rfl)
  rw [lg_entry_eq]
  generalize (lg_sl ([.ref m0, .int x_c, .int x_w, .int x_b]) ++ List.replicate (4 - (lg_sl ([.ref m0, .int x_c, .int x_w, .int x_b])).length) Slot.unset).toArray = ls at hl ⊢
  have hl : lv_has ls 4 [(0, .ref m0), (1, .int x_c), (2, .int x_w), (3, .int x_b)] := hl
  refine lv_aload_n hx hb dX5_see_0 rfl (lv_at hl 0 rfl) ?_
  refine lv_iload_n hx hb dX5_see_1 rfl (lv_at hl 1 rfl) ?_
  refine kc_i (wc := [(m0, .inr (5, [.int 0, .int 0, .ref kO, .ref lO, .int 0, .int 0, .int 0, .ref sC, .ref sW, .ref sD, .int 0, .ref pG, .int 0, .int 0, .ref wO, .ref fO, .ref mO, .ref cO, .long 0, .ref th, .int 0, .int 0, .int 0, .int 0, .ref kK, .ref kL, .ref kC, .ref kW, .ref kD, .long 0]))]) (wr := []) (va_runV (As := [.int x_c]) (rest := []) ⟨hx, hb, hml, hown, hts⟩ (c_X5_isCube l D cy H.size m0 kO lO sC sW sD pG wO fO mO cO th kK kL kC kW kD x_c ) (cwV 1 hts gX5_see_X5_isCube rfl rfl rfl (by decide +kernel) ⟨Nat.le_of_ble_eq_true rfl, Nat.le_of_ble_eq_true rfl⟩) (cpre_V (wc := [(m0, .inr (5, [.int 0, .int 0, .ref kO, .ref lO, .int 0, .int 0, .int 0, .ref sC, .ref sW, .ref sD, .int 0, .ref pG, .int 0, .int 0, .ref wO, .ref fO, .ref mO, .ref cO, .long 0, .ref th, .int 0, .int 0, .int 0, .int 0, .ref kK, .ref kL, .ref kC, .ref kW, .ref kD, .long 0]))]) 0 5 rfl rfl hX hP hD hS hA [0] (by decide +kernel) rfl) rfl rfl hl.1 rfl (lv_room (Nat.le_of_ble_eq_true rfl)) dX5_see_2 ⟨Nat.le_of_ble_eq_true rfl, Nat.le_of_ble_eq_true rfl⟩) hP hD hS hA [0] [] rfl rfl (by decide +kernel) (by decide +kernel) (fun ri u1 H locs hw hP hD hS => ?_)
  obtain ⟨hu, hri⟩ := hw
  subst hu
  have hP : va_P D vwCl [(m0, .inr (5, [.int 0, .int 0, .ref kO, .ref lO, .int 0, .int 0, .int 0, .ref sC, .ref sW, .ref sD, .int 0, .ref pG, .int 0, .int 0, .ref wO, .ref fO, .ref mO, .ref cO, .long 0, .ref th, .int 0, .int 0, .int 0, .int 0, .ref kK, .ref kL, .ref kC, .ref kW, .ref kD, .long 0]))] H := hP
  have hD : va_D A [(m0, .inr (5, [.int 0, .int 0, .ref kO, .ref lO, .int 0, .int 0, .int 0, .ref sC, .ref sW, .ref sD, .int 0, .ref pG, .int 0, .int 0, .ref wO, .ref fO, .ref mO, .ref cO, .long 0, .ref th, .int 0, .int 0, .int 0, .int 0, .ref kK, .ref kL, .ref kC, .ref kW, .ref kD, .long 0]))] := hD
  subst hri
  refine lv_if_ne (tgt := 11) hx hb dX5_see_5 (by decide) (fun c_5 => ?_) (fun c_5 => ?_)
  · exact absurd c_5 (by decide)
  · refine lv_bipush (v := (-101)) hx hb dX5_see_8 (by decide) ?_
    have hP9 := hP.sub (ws' := [(m0, .inr (5, [.int 0, .int 0, .ref kO, .ref lO, .int 0, .int 0, .int 0, .ref sC, .ref sW, .ref sD, .int 0, .ref pG, .int 0, .int 0, .ref wO, .ref fO, .ref mO, .ref cO, .long 0, .ref th, .int 0, .int 0, .int 0, .int 0, .ref kK, .ref kL, .ref kC, .ref kW, .ref kD, .long 0]))]) [0] rfl
    have hD9 := hD.sub (ws' := [(m0, .inr (5, [.int 0, .int 0, .ref kO, .ref lO, .int 0, .int 0, .int 0, .ref sC, .ref sW, .ref sD, .int 0, .ref pG, .int 0, .int 0, .ref wO, .ref fO, .ref mO, .ref cO, .long 0, .ref th, .int 0, .int 0, .int 0, .int 0, .ref kK, .ref kL, .ref kC, .ref kW, .ref kD, .long 0]))]) [0] (by decide +kernel) rfl
    exact W.iret (v := (-101)) hx hb hr (fun t9 ht9 hW9 => ⟨⟨(-101), [(m0, .inr (5, [.int 0, .int 0, .ref kO, .ref lO, .int 0, .int 0, .int 0, .ref sC, .ref sW, .ref sD, .int 0, .ref pG, .int 0, .int 0, .ref wO, .ref fO, .ref mO, .ref cO, .long 0, .ref th, .int 0, .int 0, .int 0, .int 0, .ref kK, .ref kL, .ref kC, .ref kW, .ref kD, .long 0]))], rfl, ⟨rfl, rfl⟩, by rw [ht9]; exact hP9, hD9⟩, hS.F ht9⟩) hS.2.2 dX5_see_10
def q_X5_wall (cy : Nat → ClassId) (m0 : Nat) (kO : Nat) (lO : Nat) (sC : Nat) (sW : Nat) (sD : Nat) (pG : Nat) (wO : Nat) (fO : Nat) (mO : Nat) (cO : Nat) (th : Nat) (kK : Nat) (kL : Nat) (kC : Nat) (kW : Nat) (kD : Nat) (w : Int32) (v : Int32) : Int32 → va_W → Prop := fun (r : Int32) (u : va_W) => u = [(m0, .inr (5, [.int 0, .int 0, .ref kO, .ref lO, .int 0, .int 0, .int 0, .ref sC, .ref sW, .ref sD, .int 0, .ref pG, .int 0, .int 0, .ref wO, .ref fO, .ref mO, .ref cO, .long 0, .ref th, .int 0, .int 0, .int 0, .int 0, .ref kK, .ref kL, .ref kC, .ref kW, .ref kD, .long 0]))] ∧ r = -101
set_option maxHeartbeats 4000000 in
set_option maxRecDepth 100000 in
theorem c_X5_wall (l : Launch) (D : va_G) (cy : Nat → ClassId) (zz : Nat) (m0 : Nat) (kO : Nat) (lO : Nat) (sC : Nat) (sW : Nat) (sD : Nat) (pG : Nat) (wO : Nat) (fO : Nat) (mO : Nat) (cO : Nat) (th : Nat) (kK : Nat) (kL : Nat) (kC : Nat) (kW : Nat) (kD : Nat) (w : Int32) (v : Int32) : Met l yX5_wall wsX5_wall ({ frames := 0, cells := 0, slots := 0, locals := 0 } : Room) (va_Pc [.ref m0, .int w, .int v] (cpre D cy [(m0, .inr (5, [.int 0, .int 0, .ref kO, .ref lO, .int 0, .int 0, .int 0, .ref sC, .ref sW, .ref sD, .int 0, .ref pG, .int 0, .int 0, .ref wO, .ref fO, .ref mO, .ref cO, .long 0, .ref th, .int 0, .int 0, .int 0, .int 0, .ref kK, .ref kL, .ref kC, .ref kW, .ref kD, .long 0]))] zz)) (va_Qi (q_X5_wall cy m0 kO lO sC sW sD pG wO fO mO cO th kK kL kC kW kD w v) (cpost D (va_A [(m0, .inr (5, [.int 0, .int 0, .ref kO, .ref lO, .int 0, .int 0, .int 0, .ref sC, .ref sW, .ref sD, .int 0, .ref pG, .int 0, .int 0, .ref wO, .ref fO, .ref mO, .ref cO, .long 0, .ref th, .int 0, .int 0, .int 0, .int 0, .ref kK, .ref kL, .ref kC, .ref kW, .ref kD, .long 0]))] zz)) (va_A [(m0, .inr (5, [.int 0, .int 0, .ref kO, .ref lO, .int 0, .int 0, .int 0, .ref sC, .ref sW, .ref sD, .int 0, .ref pG, .int 0, .int 0, .ref wO, .ref fO, .ref mO, .ref cO, .long 0, .ref th, .int 0, .int 0, .int 0, .int 0, .ref kK, .ref kL, .ref kC, .ref kW, .ref kD, .long 0]))] zz)) 0 0 (va_A [(m0, .inr (5, [.int 0, .int 0, .ref kO, .ref lO, .int 0, .int 0, .int 0, .ref sC, .ref sW, .ref sD, .int 0, .ref pG, .int 0, .int 0, .ref wO, .ref fO, .ref mO, .ref cO, .long 0, .ref th, .int 0, .int 0, .int 0, .int 0, .ref kK, .ref kL, .ref kC, .ref kW, .ref kD, .long 0]))] zz) := by
  refine Met.ofW (cc := cX5_wall) (maxL := 3) (ret := (some .int)) (by decide) rfl ?_
  intro p e s m args below meth c s₁ B hml hv
  obtain ⟨rfl, hsz, hP, hD0, hX⟩ := hv
  have hx := B.exec
  have hb := B.bytes
  have hr := B.returns
  have hts := atoms_spec (ws := wsX5_wall) B.pre
  have hown : s.vm.findClass RX5 = some m.cls := findClass_of_methodNamed B.named
  have hlocks := B.notSynchronized
  subst hsz
  have hD := hD0.self (sz := s.heap.size)
  generalize hAe : va_A [(m0, .inr (5, [.int 0, .int 0, .ref kO, .ref lO, .int 0, .int 0, .int 0, .ref sC, .ref sW, .ref sD, .int 0, .ref pG, .int 0, .int 0, .ref wO, .ref fO, .ref mO, .ref cO, .long 0, .ref th, .int 0, .int 0, .int 0, .int 0, .ref kK, .ref kL, .ref kC, .ref kW, .ref kD, .long 0]))] s.heap.size = A at hD hX ⊢
  have hA : ∀ q : Nat, s.heap.size ≤ q → A q := fun q h => by rw [← hAe]; exact Or.inr h
  obtain ⟨H, hH⟩ : ∃ H : Heap, H = s.heap := ⟨_, rfl⟩
  have hS : va_S A s.heap H [] := hH ▸ va_S.rf
  have hK := hX.1
  have hP : va_P D vwCl [(m0, .inr (5, [.int 0, .int 0, .ref kO, .ref lO, .int 0, .int 0, .int 0, .ref sC, .ref sW, .ref sD, .int 0, .ref pG, .int 0, .int 0, .ref wO, .ref fO, .ref mO, .ref cO, .long 0, .ref th, .int 0, .int 0, .int 0, .int 0, .ref kK, .ref kL, .ref kC, .ref kW, .ref kD, .long 0]))] H := hH ▸ hP
  rw [← hH]
  have hw_X5 : ∀ w ∈ wsX50, w ∈ wsX5_wall := by decide +kernel
  have f_88 := hts (.fieldLink RX5 88 "CubeTowerModel" "cubes" "I") (by decide +kernel)
  have hl := lv_entry ([.ref m0, .int w, .int v]) (n := 3) (Nat.le_of_ble_eq_true rfl)
  rw [lg_entry_eq]
  generalize (lg_sl ([.ref m0, .int w, .int v]) ++ List.replicate (3 - (lg_sl ([.ref m0, .int w, .int v])).length) Slot.unset).toArray = ls at hl ⊢
  have hl : lv_has ls 3 [(0, .ref m0), (1, .int w), (2, .int v)] := hl
  refine lv_aload_n hx hb dX5_wall_0 rfl (lv_at hl 0 rfl) ?_
  refine va_get (D := D) (ci := 5) (v := .int 0) (C := RX5) (T := TX5) (N := 30) hx hb hts hw_X5 hown hK hP 0 rfl rfl 1 (by decide) f_88 (fun _ h9 => h9) rfl dX5_wall_1 ?_
  refine lv_if_eq (tgt := 16) hx hb dX5_wall_4 (by decide) (fun c_4 => ?_) (fun c_4 => ?_)
  · refine lv_bipush (v := (-101)) hx hb dX5_wall_16 (by decide) ?_
    have hP9 := hP.sub (ws' := [(m0, .inr (5, [.int 0, .int 0, .ref kO, .ref lO, .int 0, .int 0, .int 0, .ref sC, .ref sW, .ref sD, .int 0, .ref pG, .int 0, .int 0, .ref wO, .ref fO, .ref mO, .ref cO, .long 0, .ref th, .int 0, .int 0, .int 0, .int 0, .ref kK, .ref kL, .ref kC, .ref kW, .ref kD, .long 0]))]) [0] rfl
    have hD9 := hD.sub (ws' := [(m0, .inr (5, [.int 0, .int 0, .ref kO, .ref lO, .int 0, .int 0, .int 0, .ref sC, .ref sW, .ref sD, .int 0, .ref pG, .int 0, .int 0, .ref wO, .ref fO, .ref mO, .ref cO, .long 0, .ref th, .int 0, .int 0, .int 0, .int 0, .ref kK, .ref kL, .ref kC, .ref kW, .ref kD, .long 0]))]) [0] (by decide +kernel) rfl
    exact W.iret (v := (-101)) hx hb hr (fun t9 ht9 hW9 => ⟨⟨(-101), [(m0, .inr (5, [.int 0, .int 0, .ref kO, .ref lO, .int 0, .int 0, .int 0, .ref sC, .ref sW, .ref sD, .int 0, .ref pG, .int 0, .int 0, .ref wO, .ref fO, .ref mO, .ref cO, .long 0, .ref th, .int 0, .int 0, .int 0, .int 0, .ref kK, .ref kL, .ref kC, .ref kW, .ref kD, .long 0]))], rfl, ⟨rfl, rfl⟩, by rw [ht9]; exact hP9, hD9⟩, hS.F ht9⟩) hS.2.2 dX5_wall_18
  · exact absurd c_4 (by decide)
def q_X5_ways (cy : Nat → ClassId) (m0 : Nat) (kO : Nat) (lO : Nat) (sC : Nat) (sW : Nat) (sD : Nat) (pG : Nat) (wO : Nat) (fO : Nat) (mO : Nat) (cO : Nat) (th : Nat) (kK : Nat) (kL : Nat) (kC : Nat) (kW : Nat) (kD : Nat) (w : Int32) : Int32 → va_W → Prop := fun (r : Int32) (u : va_W) => u = [(m0, .inr (5, [.int 0, .int 0, .ref kO, .ref lO, .int 0, .int 0, .int 0, .ref sC, .ref sW, .ref sD, .int 0, .ref pG, .int 0, .int 0, .ref wO, .ref fO, .ref mO, .ref cO, .long 0, .ref th, .int 0, .int 0, .int 0, .int 0, .ref kK, .ref kL, .ref kC, .ref kW, .ref kD, .long 0]))] ∧ r = (if w < 0 ∨ ¬ w ≤ 1 then -102 else -103)
set_option maxHeartbeats 4000000 in
set_option maxRecDepth 100000 in
theorem c_X5_ways (l : Launch) (D : va_G) (cy : Nat → ClassId) (zz : Nat) (m0 : Nat) (kO : Nat) (lO : Nat) (sC : Nat) (sW : Nat) (sD : Nat) (pG : Nat) (wO : Nat) (fO : Nat) (mO : Nat) (cO : Nat) (th : Nat) (kK : Nat) (kL : Nat) (kC : Nat) (kW : Nat) (kD : Nat) (w : Int32) : Met l yX5_ways wsX5_ways ({ frames := 1, cells := 0, slots := 0, locals := 22 } : Room) (va_Pc [.ref m0, .int w] (cpre D cy [(m0, .inr (5, [.int 0, .int 0, .ref kO, .ref lO, .int 0, .int 0, .int 0, .ref sC, .ref sW, .ref sD, .int 0, .ref pG, .int 0, .int 0, .ref wO, .ref fO, .ref mO, .ref cO, .long 0, .ref th, .int 0, .int 0, .int 0, .int 0, .ref kK, .ref kL, .ref kC, .ref kW, .ref kD, .long 0]))] zz)) (va_Qi (q_X5_ways cy m0 kO lO sC sW sD pG wO fO mO cO th kK kL kC kW kD w) (cpost D (va_A [(m0, .inr (5, [.int 0, .int 0, .ref kO, .ref lO, .int 0, .int 0, .int 0, .ref sC, .ref sW, .ref sD, .int 0, .ref pG, .int 0, .int 0, .ref wO, .ref fO, .ref mO, .ref cO, .long 0, .ref th, .int 0, .int 0, .int 0, .int 0, .ref kK, .ref kL, .ref kC, .ref kW, .ref kD, .long 0]))] zz)) (va_A [(m0, .inr (5, [.int 0, .int 0, .ref kO, .ref lO, .int 0, .int 0, .int 0, .ref sC, .ref sW, .ref sD, .int 0, .ref pG, .int 0, .int 0, .ref wO, .ref fO, .ref mO, .ref cO, .long 0, .ref th, .int 0, .int 0, .int 0, .int 0, .ref kK, .ref kL, .ref kC, .ref kW, .ref kD, .long 0]))] zz)) 0 0 (va_A [(m0, .inr (5, [.int 0, .int 0, .ref kO, .ref lO, .int 0, .int 0, .int 0, .ref sC, .ref sW, .ref sD, .int 0, .ref pG, .int 0, .int 0, .ref wO, .ref fO, .ref mO, .ref cO, .long 0, .ref th, .int 0, .int 0, .int 0, .int 0, .ref kK, .ref kL, .ref kC, .ref kW, .ref kD, .long 0]))] zz) := by
  refine Met.ofW (cc := cX5_ways) (maxL := 2) (ret := (some .int)) (by decide) rfl ?_
  intro p e s m args below meth c s₁ B hml hv
  obtain ⟨rfl, hsz, hP, hD0, hX⟩ := hv
  have hx := B.exec
  have hb := B.bytes
  have hr := B.returns
  have hts := atoms_spec (ws := wsX5_ways) B.pre
  have hown : s.vm.findClass RX5 = some m.cls := findClass_of_methodNamed B.named
  have hlocks := B.notSynchronized
  subst hsz
  have hD := hD0.self (sz := s.heap.size)
  generalize hAe : va_A [(m0, .inr (5, [.int 0, .int 0, .ref kO, .ref lO, .int 0, .int 0, .int 0, .ref sC, .ref sW, .ref sD, .int 0, .ref pG, .int 0, .int 0, .ref wO, .ref fO, .ref mO, .ref cO, .long 0, .ref th, .int 0, .int 0, .int 0, .int 0, .ref kK, .ref kL, .ref kC, .ref kW, .ref kD, .long 0]))] s.heap.size = A at hD hX ⊢
  have hA : ∀ q : Nat, s.heap.size ≤ q → A q := fun q h => by rw [← hAe]; exact Or.inr h
  obtain ⟨H, hH⟩ : ∃ H : Heap, H = s.heap := ⟨_, rfl⟩
  have hS : va_S A s.heap H [] := hH ▸ va_S.rf
  have hK := hX.1
  have hP : va_P D vwCl [(m0, .inr (5, [.int 0, .int 0, .ref kO, .ref lO, .int 0, .int 0, .int 0, .ref sC, .ref sW, .ref sD, .int 0, .ref pG, .int 0, .int 0, .ref wO, .ref fO, .ref mO, .ref cO, .long 0, .ref th, .int 0, .int 0, .int 0, .int 0, .ref kK, .ref kL, .ref kC, .ref kW, .ref kD, .long 0]))] H := hH ▸ hP
  rw [← hH]
  have hw_X5 : ∀ w ∈ wsX50, w ∈ wsX5_ways := by decide +kernel
  have f_88 := hts (.fieldLink RX5 88 "CubeTowerModel" "cubes" "I") (by decide +kernel)
  have hl := lv_entry ([.ref m0, .int w]) (n := 2) (Nat.le_of_ble_eq_true rfl)
  rw [lg_entry_eq]
  generalize (lg_sl ([.ref m0, .int w]) ++ List.replicate (2 - (lg_sl ([.ref m0, .int w])).length) Slot.unset).toArray = ls at hl ⊢
  have hl : lv_has ls 2 [(0, .ref m0), (1, .int w)] := hl
  refine lv_iload_n hx hb dX5_ways_0 rfl (lv_at hl 1 rfl) ?_
  refine lv_iconst (v := 0) hx hb dX5_ways_1 (by decide) ?_
  refine lv_iconst (v := 1) hx hb dX5_ways_2 (by decide) ?_
  refine kc_i (wc := []) (wr := [(m0, .inr (5, [.int 0, .int 0, .ref kO, .ref lO, .int 0, .int 0, .int 0, .ref sC, .ref sW, .ref sD, .int 0, .ref pG, .int 0, .int 0, .ref wO, .ref fO, .ref mO, .ref cO, .long 0, .ref th, .int 0, .int 0, .int 0, .int 0, .ref kK, .ref kL, .ref kC, .ref kW, .ref kD, .long 0]))]) (va_runS (As := [.int w, .int 0, .int 1]) (rest := []) ⟨hx, hb, hml, hown, hts⟩ (c_X5_within l D cy H.size w 0 1 ) (va_cwS 3 hts gX5_ways_X5_within rfl rfl rfl (by decide +kernel) ⟨Nat.le_of_ble_eq_true rfl, Nat.le_of_ble_eq_true rfl⟩) (cpre_S (wc := []) hX hP hD hS hA [] (by decide +kernel) rfl) rfl rfl hl.1 rfl (lv_room (Nat.le_of_ble_eq_true rfl)) dX5_ways_3 ⟨Nat.le_of_ble_eq_true rfl, Nat.le_of_ble_eq_true rfl⟩) hP hD hS hA [] [0] rfl rfl (by decide +kernel) (by decide +kernel) (fun ww u1 H locs hw hP hD hS => ?_)
  obtain ⟨hu, hww⟩ := hw
  subst hu
  have hP : va_P D vwCl [(m0, .inr (5, [.int 0, .int 0, .ref kO, .ref lO, .int 0, .int 0, .int 0, .ref sC, .ref sW, .ref sD, .int 0, .ref pG, .int 0, .int 0, .ref wO, .ref fO, .ref mO, .ref cO, .long 0, .ref th, .int 0, .int 0, .int 0, .int 0, .ref kK, .ref kL, .ref kC, .ref kW, .ref kD, .long 0]))] H := hP
  have hD : va_D A [(m0, .inr (5, [.int 0, .int 0, .ref kO, .ref lO, .int 0, .int 0, .int 0, .ref sC, .ref sW, .ref sD, .int 0, .ref pG, .int 0, .int 0, .ref wO, .ref fO, .ref mO, .ref cO, .long 0, .ref th, .int 0, .int 0, .int 0, .int 0, .ref kK, .ref kL, .ref kC, .ref kW, .ref kD, .long 0]))] := hD
  refine lv_if_ne (tgt := 12) hx hb dX5_ways_6 (by decide) (fun c_6 => ?_) (fun c_6 => ?_)
  · refine lv_aload_n hx hb dX5_ways_12 rfl (lv_at hl 0 rfl) ?_
    refine va_get (D := D) (ci := 5) (v := .int 0) (C := RX5) (T := TX5) (N := 30) hx hb hts hw_X5 hown hK hP 0 rfl rfl 1 (by decide) f_88 (fun _ h9 => h9) rfl dX5_ways_13 ?_
    refine lv_if_ne (tgt := 24) hx hb dX5_ways_16 (by decide) (fun c_16 => ?_) (fun c_16 => ?_)
    · exact absurd c_16 (by decide)
    · refine lv_bipush (v := (-103)) hx hb dX5_ways_19 (by decide) ?_
      refine lv_goto (tgt := 29) hx hb dX5_ways_21 (by decide) ?_
      have hP9 := hP.sub (ws' := [(m0, .inr (5, [.int 0, .int 0, .ref kO, .ref lO, .int 0, .int 0, .int 0, .ref sC, .ref sW, .ref sD, .int 0, .ref pG, .int 0, .int 0, .ref wO, .ref fO, .ref mO, .ref cO, .long 0, .ref th, .int 0, .int 0, .int 0, .int 0, .ref kK, .ref kL, .ref kC, .ref kW, .ref kD, .long 0]))]) [0] rfl
      have hD9 := hD.sub (ws' := [(m0, .inr (5, [.int 0, .int 0, .ref kO, .ref lO, .int 0, .int 0, .int 0, .ref sC, .ref sW, .ref sD, .int 0, .ref pG, .int 0, .int 0, .ref wO, .ref fO, .ref mO, .ref cO, .long 0, .ref th, .int 0, .int 0, .int 0, .int 0, .ref kK, .ref kL, .ref kC, .ref kW, .ref kD, .long 0]))]) [0] (by decide +kernel) rfl
      exact W.iret (v := (-103)) hx hb hr (fun t9 ht9 hW9 => ⟨⟨(-103), [(m0, .inr (5, [.int 0, .int 0, .ref kO, .ref lO, .int 0, .int 0, .int 0, .ref sC, .ref sW, .ref sD, .int 0, .ref pG, .int 0, .int 0, .ref wO, .ref fO, .ref mO, .ref cO, .long 0, .ref th, .int 0, .int 0, .int 0, .int 0, .ref kK, .ref kL, .ref kC, .ref kW, .ref kD, .long 0]))], rfl, ⟨rfl, (if_neg (wn1 hww c_6)).symm⟩, by rw [ht9]; exact hP9, hD9⟩, hS.F ht9⟩) hS.2.2 dX5_ways_29
  · refine lv_bipush (v := (-102)) hx hb dX5_ways_9 (by decide) ?_
    have hP9 := hP.sub (ws' := [(m0, .inr (5, [.int 0, .int 0, .ref kO, .ref lO, .int 0, .int 0, .int 0, .ref sC, .ref sW, .ref sD, .int 0, .ref pG, .int 0, .int 0, .ref wO, .ref fO, .ref mO, .ref cO, .long 0, .ref th, .int 0, .int 0, .int 0, .int 0, .ref kK, .ref kL, .ref kC, .ref kW, .ref kD, .long 0]))]) [0] rfl
    have hD9 := hD.sub (ws' := [(m0, .inr (5, [.int 0, .int 0, .ref kO, .ref lO, .int 0, .int 0, .int 0, .ref sC, .ref sW, .ref sD, .int 0, .ref pG, .int 0, .int 0, .ref wO, .ref fO, .ref mO, .ref cO, .long 0, .ref th, .int 0, .int 0, .int 0, .int 0, .ref kK, .ref kL, .ref kC, .ref kW, .ref kD, .long 0]))]) [0] (by decide +kernel) rfl
    exact W.iret (v := (-102)) hx hb hr (fun t9 ht9 hW9 => ⟨⟨(-102), [(m0, .inr (5, [.int 0, .int 0, .ref kO, .ref lO, .int 0, .int 0, .int 0, .ref sC, .ref sW, .ref sD, .int 0, .ref pG, .int 0, .int 0, .ref wO, .ref fO, .ref mO, .ref cO, .long 0, .ref th, .int 0, .int 0, .int 0, .int 0, .ref kK, .ref kL, .ref kC, .ref kW, .ref kD, .long 0]))], rfl, ⟨rfl, (if_pos (wn0 hww c_6)).symm⟩, by rw [ht9]; exact hP9, hD9⟩, hS.F ht9⟩) hS.2.2 dX5_ways_11
def q_X5_turning (cy : Nat → ClassId) (m0 : Nat) (kO : Nat) (lO : Nat) (sC : Nat) (sW : Nat) (sD : Nat) (pG : Nat) (wO : Nat) (fO : Nat) (mO : Nat) (cO : Nat) (th : Nat) (kK : Nat) (kL : Nat) (kC : Nat) (kW : Nat) (kD : Nat) (w : Int32) : Int32 → va_W → Prop := fun (r : Int32) (u : va_W) => u = [(m0, .inr (5, [.int 0, .int 0, .ref kO, .ref lO, .int 0, .int 0, .int 0, .ref sC, .ref sW, .ref sD, .int 0, .ref pG, .int 0, .int 0, .ref wO, .ref fO, .ref mO, .ref cO, .long 0, .ref th, .int 0, .int 0, .int 0, .int 0, .ref kK, .ref kL, .ref kC, .ref kW, .ref kD, .long 0]))] ∧ r = (if w < 0 ∨ ¬ w ≤ 1 then -102 else -103)
set_option maxHeartbeats 4000000 in
set_option maxRecDepth 100000 in
theorem c_X5_turning (l : Launch) (D : va_G) (cy : Nat → ClassId) (zz : Nat) (m0 : Nat) (kO : Nat) (lO : Nat) (sC : Nat) (sW : Nat) (sD : Nat) (pG : Nat) (wO : Nat) (fO : Nat) (mO : Nat) (cO : Nat) (th : Nat) (kK : Nat) (kL : Nat) (kC : Nat) (kW : Nat) (kD : Nat) (w : Int32) : Met l yX5_turning wsX5_turning ({ frames := 1, cells := 0, slots := 0, locals := 22 } : Room) (va_Pc [.ref m0, .int w] (cpre D cy [(m0, .inr (5, [.int 0, .int 0, .ref kO, .ref lO, .int 0, .int 0, .int 0, .ref sC, .ref sW, .ref sD, .int 0, .ref pG, .int 0, .int 0, .ref wO, .ref fO, .ref mO, .ref cO, .long 0, .ref th, .int 0, .int 0, .int 0, .int 0, .ref kK, .ref kL, .ref kC, .ref kW, .ref kD, .long 0]))] zz)) (va_Qi (q_X5_turning cy m0 kO lO sC sW sD pG wO fO mO cO th kK kL kC kW kD w) (cpost D (va_A [(m0, .inr (5, [.int 0, .int 0, .ref kO, .ref lO, .int 0, .int 0, .int 0, .ref sC, .ref sW, .ref sD, .int 0, .ref pG, .int 0, .int 0, .ref wO, .ref fO, .ref mO, .ref cO, .long 0, .ref th, .int 0, .int 0, .int 0, .int 0, .ref kK, .ref kL, .ref kC, .ref kW, .ref kD, .long 0]))] zz)) (va_A [(m0, .inr (5, [.int 0, .int 0, .ref kO, .ref lO, .int 0, .int 0, .int 0, .ref sC, .ref sW, .ref sD, .int 0, .ref pG, .int 0, .int 0, .ref wO, .ref fO, .ref mO, .ref cO, .long 0, .ref th, .int 0, .int 0, .int 0, .int 0, .ref kK, .ref kL, .ref kC, .ref kW, .ref kD, .long 0]))] zz)) 0 0 (va_A [(m0, .inr (5, [.int 0, .int 0, .ref kO, .ref lO, .int 0, .int 0, .int 0, .ref sC, .ref sW, .ref sD, .int 0, .ref pG, .int 0, .int 0, .ref wO, .ref fO, .ref mO, .ref cO, .long 0, .ref th, .int 0, .int 0, .int 0, .int 0, .ref kK, .ref kL, .ref kC, .ref kW, .ref kD, .long 0]))] zz) := by
  refine Met.ofW (cc := cX5_turning) (maxL := 2) (ret := (some .int)) (by decide) rfl ?_
  intro p e s m args below meth c s₁ B hml hv
  obtain ⟨rfl, hsz, hP, hD0, hX⟩ := hv
  have hx := B.exec
  have hb := B.bytes
  have hr := B.returns
  have hts := atoms_spec (ws := wsX5_turning) B.pre
  have hown : s.vm.findClass RX5 = some m.cls := findClass_of_methodNamed B.named
  have hlocks := B.notSynchronized
  subst hsz
  have hD := hD0.self (sz := s.heap.size)
  generalize hAe : va_A [(m0, .inr (5, [.int 0, .int 0, .ref kO, .ref lO, .int 0, .int 0, .int 0, .ref sC, .ref sW, .ref sD, .int 0, .ref pG, .int 0, .int 0, .ref wO, .ref fO, .ref mO, .ref cO, .long 0, .ref th, .int 0, .int 0, .int 0, .int 0, .ref kK, .ref kL, .ref kC, .ref kW, .ref kD, .long 0]))] s.heap.size = A at hD hX ⊢
  have hA : ∀ q : Nat, s.heap.size ≤ q → A q := fun q h => by rw [← hAe]; exact Or.inr h
  obtain ⟨H, hH⟩ : ∃ H : Heap, H = s.heap := ⟨_, rfl⟩
  have hS : va_S A s.heap H [] := hH ▸ va_S.rf
  have hK := hX.1
  have hP : va_P D vwCl [(m0, .inr (5, [.int 0, .int 0, .ref kO, .ref lO, .int 0, .int 0, .int 0, .ref sC, .ref sW, .ref sD, .int 0, .ref pG, .int 0, .int 0, .ref wO, .ref fO, .ref mO, .ref cO, .long 0, .ref th, .int 0, .int 0, .int 0, .int 0, .ref kK, .ref kL, .ref kC, .ref kW, .ref kD, .long 0]))] H := hH ▸ hP
  rw [← hH]
  have hw_X5 : ∀ w ∈ wsX50, w ∈ wsX5_turning := by decide +kernel
  have f_88 := hts (.fieldLink RX5 88 "CubeTowerModel" "cubes" "I") (by decide +kernel)
  have hl := lv_entry ([.ref m0, .int w]) (n := 2) (Nat.le_of_ble_eq_true rfl)
  rw [lg_entry_eq]
  generalize (lg_sl ([.ref m0, .int w]) ++ List.replicate (2 - (lg_sl ([.ref m0, .int w])).length) Slot.unset).toArray = ls at hl ⊢
  have hl : lv_has ls 2 [(0, .ref m0), (1, .int w)] := hl
  refine lv_iload_n hx hb dX5_turning_0 rfl (lv_at hl 1 rfl) ?_
  refine lv_iconst (v := 0) hx hb dX5_turning_1 (by decide) ?_
  refine lv_iconst (v := 1) hx hb dX5_turning_2 (by decide) ?_
  refine kc_i (wc := []) (wr := [(m0, .inr (5, [.int 0, .int 0, .ref kO, .ref lO, .int 0, .int 0, .int 0, .ref sC, .ref sW, .ref sD, .int 0, .ref pG, .int 0, .int 0, .ref wO, .ref fO, .ref mO, .ref cO, .long 0, .ref th, .int 0, .int 0, .int 0, .int 0, .ref kK, .ref kL, .ref kC, .ref kW, .ref kD, .long 0]))]) (va_runS (As := [.int w, .int 0, .int 1]) (rest := []) ⟨hx, hb, hml, hown, hts⟩ (c_X5_within l D cy H.size w 0 1 ) (va_cwS 3 hts gX5_turning_X5_within rfl rfl rfl (by decide +kernel) ⟨Nat.le_of_ble_eq_true rfl, Nat.le_of_ble_eq_true rfl⟩) (cpre_S (wc := []) hX hP hD hS hA [] (by decide +kernel) rfl) rfl rfl hl.1 rfl (lv_room (Nat.le_of_ble_eq_true rfl)) dX5_turning_3 ⟨Nat.le_of_ble_eq_true rfl, Nat.le_of_ble_eq_true rfl⟩) hP hD hS hA [] [0] rfl rfl (by decide +kernel) (by decide +kernel) (fun ww u1 H locs hw hP hD hS => ?_)
  obtain ⟨hu, hww⟩ := hw
  subst hu
  have hP : va_P D vwCl [(m0, .inr (5, [.int 0, .int 0, .ref kO, .ref lO, .int 0, .int 0, .int 0, .ref sC, .ref sW, .ref sD, .int 0, .ref pG, .int 0, .int 0, .ref wO, .ref fO, .ref mO, .ref cO, .long 0, .ref th, .int 0, .int 0, .int 0, .int 0, .ref kK, .ref kL, .ref kC, .ref kW, .ref kD, .long 0]))] H := hP
  have hD : va_D A [(m0, .inr (5, [.int 0, .int 0, .ref kO, .ref lO, .int 0, .int 0, .int 0, .ref sC, .ref sW, .ref sD, .int 0, .ref pG, .int 0, .int 0, .ref wO, .ref fO, .ref mO, .ref cO, .long 0, .ref th, .int 0, .int 0, .int 0, .int 0, .ref kK, .ref kL, .ref kC, .ref kW, .ref kD, .long 0]))] := hD
  refine lv_if_ne (tgt := 12) hx hb dX5_turning_6 (by decide) (fun c_6 => ?_) (fun c_6 => ?_)
  · refine lv_aload_n hx hb dX5_turning_12 rfl (lv_at hl 0 rfl) ?_
    refine va_get (D := D) (ci := 5) (v := .int 0) (C := RX5) (T := TX5) (N := 30) hx hb hts hw_X5 hown hK hP 0 rfl rfl 1 (by decide) f_88 (fun _ h9 => h9) rfl dX5_turning_13 ?_
    refine lv_if_ne (tgt := 24) hx hb dX5_turning_16 (by decide) (fun c_16 => ?_) (fun c_16 => ?_)
    · exact absurd c_16 (by decide)
    · refine lv_bipush (v := (-103)) hx hb dX5_turning_19 (by decide) ?_
      refine lv_goto (tgt := 29) hx hb dX5_turning_21 (by decide) ?_
      have hP9 := hP.sub (ws' := [(m0, .inr (5, [.int 0, .int 0, .ref kO, .ref lO, .int 0, .int 0, .int 0, .ref sC, .ref sW, .ref sD, .int 0, .ref pG, .int 0, .int 0, .ref wO, .ref fO, .ref mO, .ref cO, .long 0, .ref th, .int 0, .int 0, .int 0, .int 0, .ref kK, .ref kL, .ref kC, .ref kW, .ref kD, .long 0]))]) [0] rfl
      have hD9 := hD.sub (ws' := [(m0, .inr (5, [.int 0, .int 0, .ref kO, .ref lO, .int 0, .int 0, .int 0, .ref sC, .ref sW, .ref sD, .int 0, .ref pG, .int 0, .int 0, .ref wO, .ref fO, .ref mO, .ref cO, .long 0, .ref th, .int 0, .int 0, .int 0, .int 0, .ref kK, .ref kL, .ref kC, .ref kW, .ref kD, .long 0]))]) [0] (by decide +kernel) rfl
      exact W.iret (v := (-103)) hx hb hr (fun t9 ht9 hW9 => ⟨⟨(-103), [(m0, .inr (5, [.int 0, .int 0, .ref kO, .ref lO, .int 0, .int 0, .int 0, .ref sC, .ref sW, .ref sD, .int 0, .ref pG, .int 0, .int 0, .ref wO, .ref fO, .ref mO, .ref cO, .long 0, .ref th, .int 0, .int 0, .int 0, .int 0, .ref kK, .ref kL, .ref kC, .ref kW, .ref kD, .long 0]))], rfl, ⟨rfl, (if_neg (wn1 hww c_6)).symm⟩, by rw [ht9]; exact hP9, hD9⟩, hS.F ht9⟩) hS.2.2 dX5_turning_29
  · refine lv_bipush (v := (-102)) hx hb dX5_turning_9 (by decide) ?_
    have hP9 := hP.sub (ws' := [(m0, .inr (5, [.int 0, .int 0, .ref kO, .ref lO, .int 0, .int 0, .int 0, .ref sC, .ref sW, .ref sD, .int 0, .ref pG, .int 0, .int 0, .ref wO, .ref fO, .ref mO, .ref cO, .long 0, .ref th, .int 0, .int 0, .int 0, .int 0, .ref kK, .ref kL, .ref kC, .ref kW, .ref kD, .long 0]))]) [0] rfl
    have hD9 := hD.sub (ws' := [(m0, .inr (5, [.int 0, .int 0, .ref kO, .ref lO, .int 0, .int 0, .int 0, .ref sC, .ref sW, .ref sD, .int 0, .ref pG, .int 0, .int 0, .ref wO, .ref fO, .ref mO, .ref cO, .long 0, .ref th, .int 0, .int 0, .int 0, .int 0, .ref kK, .ref kL, .ref kC, .ref kW, .ref kD, .long 0]))]) [0] (by decide +kernel) rfl
    exact W.iret (v := (-102)) hx hb hr (fun t9 ht9 hW9 => ⟨⟨(-102), [(m0, .inr (5, [.int 0, .int 0, .ref kO, .ref lO, .int 0, .int 0, .int 0, .ref sC, .ref sW, .ref sD, .int 0, .ref pG, .int 0, .int 0, .ref wO, .ref fO, .ref mO, .ref cO, .long 0, .ref th, .int 0, .int 0, .int 0, .int 0, .ref kK, .ref kL, .ref kC, .ref kW, .ref kD, .long 0]))], rfl, ⟨rfl, (if_pos (wn0 hww c_6)).symm⟩, by rw [ht9]; exact hP9, hD9⟩, hS.F ht9⟩) hS.2.2 dX5_turning_11
def q_X5_odds (cy : Nat → ClassId) (m0 : Nat) (kO : Nat) (lO : Nat) (sC : Nat) (sW : Nat) (sD : Nat) (pG : Nat) (wO : Nat) (fO : Nat) (mO : Nat) (cO : Nat) (th : Nat) (kK : Nat) (kL : Nat) (kC : Nat) (kW : Nat) (kD : Nat) (w : Int32) : Int32 → va_W → Prop := fun (r : Int32) (u : va_W) => u = [(m0, .inr (5, [.int 0, .int 0, .ref kO, .ref lO, .int 0, .int 0, .int 0, .ref sC, .ref sW, .ref sD, .int 0, .ref pG, .int 0, .int 0, .ref wO, .ref fO, .ref mO, .ref cO, .long 0, .ref th, .int 0, .int 0, .int 0, .int 0, .ref kK, .ref kL, .ref kC, .ref kW, .ref kD, .long 0]))] ∧ r = (if w < 0 ∨ ¬ w ≤ 1 then -102 else -103)
set_option maxHeartbeats 4000000 in
set_option maxRecDepth 100000 in
theorem c_X5_odds (l : Launch) (D : va_G) (cy : Nat → ClassId) (zz : Nat) (m0 : Nat) (kO : Nat) (lO : Nat) (sC : Nat) (sW : Nat) (sD : Nat) (pG : Nat) (wO : Nat) (fO : Nat) (mO : Nat) (cO : Nat) (th : Nat) (kK : Nat) (kL : Nat) (kC : Nat) (kW : Nat) (kD : Nat) (w : Int32) : Met l yX5_odds wsX5_odds ({ frames := 1, cells := 0, slots := 0, locals := 22 } : Room) (va_Pc [.ref m0, .int w] (cpre D cy [(m0, .inr (5, [.int 0, .int 0, .ref kO, .ref lO, .int 0, .int 0, .int 0, .ref sC, .ref sW, .ref sD, .int 0, .ref pG, .int 0, .int 0, .ref wO, .ref fO, .ref mO, .ref cO, .long 0, .ref th, .int 0, .int 0, .int 0, .int 0, .ref kK, .ref kL, .ref kC, .ref kW, .ref kD, .long 0]))] zz)) (va_Qi (q_X5_odds cy m0 kO lO sC sW sD pG wO fO mO cO th kK kL kC kW kD w) (cpost D (va_A [(m0, .inr (5, [.int 0, .int 0, .ref kO, .ref lO, .int 0, .int 0, .int 0, .ref sC, .ref sW, .ref sD, .int 0, .ref pG, .int 0, .int 0, .ref wO, .ref fO, .ref mO, .ref cO, .long 0, .ref th, .int 0, .int 0, .int 0, .int 0, .ref kK, .ref kL, .ref kC, .ref kW, .ref kD, .long 0]))] zz)) (va_A [(m0, .inr (5, [.int 0, .int 0, .ref kO, .ref lO, .int 0, .int 0, .int 0, .ref sC, .ref sW, .ref sD, .int 0, .ref pG, .int 0, .int 0, .ref wO, .ref fO, .ref mO, .ref cO, .long 0, .ref th, .int 0, .int 0, .int 0, .int 0, .ref kK, .ref kL, .ref kC, .ref kW, .ref kD, .long 0]))] zz)) 0 0 (va_A [(m0, .inr (5, [.int 0, .int 0, .ref kO, .ref lO, .int 0, .int 0, .int 0, .ref sC, .ref sW, .ref sD, .int 0, .ref pG, .int 0, .int 0, .ref wO, .ref fO, .ref mO, .ref cO, .long 0, .ref th, .int 0, .int 0, .int 0, .int 0, .ref kK, .ref kL, .ref kC, .ref kW, .ref kD, .long 0]))] zz) := by
  refine Met.ofW (cc := cX5_odds) (maxL := 2) (ret := (some .int)) (by decide) rfl ?_
  intro p e s m args below meth c s₁ B hml hv
  obtain ⟨rfl, hsz, hP, hD0, hX⟩ := hv
  have hx := B.exec
  have hb := B.bytes
  have hr := B.returns
  have hts := atoms_spec (ws := wsX5_odds) B.pre
  have hown : s.vm.findClass RX5 = some m.cls := findClass_of_methodNamed B.named
  have hlocks := B.notSynchronized
  subst hsz
  have hD := hD0.self (sz := s.heap.size)
  generalize hAe : va_A [(m0, .inr (5, [.int 0, .int 0, .ref kO, .ref lO, .int 0, .int 0, .int 0, .ref sC, .ref sW, .ref sD, .int 0, .ref pG, .int 0, .int 0, .ref wO, .ref fO, .ref mO, .ref cO, .long 0, .ref th, .int 0, .int 0, .int 0, .int 0, .ref kK, .ref kL, .ref kC, .ref kW, .ref kD, .long 0]))] s.heap.size = A at hD hX ⊢
  have hA : ∀ q : Nat, s.heap.size ≤ q → A q := fun q h => by rw [← hAe]; exact Or.inr h
  obtain ⟨H, hH⟩ : ∃ H : Heap, H = s.heap := ⟨_, rfl⟩
  have hS : va_S A s.heap H [] := hH ▸ va_S.rf
  have hK := hX.1
  have hP : va_P D vwCl [(m0, .inr (5, [.int 0, .int 0, .ref kO, .ref lO, .int 0, .int 0, .int 0, .ref sC, .ref sW, .ref sD, .int 0, .ref pG, .int 0, .int 0, .ref wO, .ref fO, .ref mO, .ref cO, .long 0, .ref th, .int 0, .int 0, .int 0, .int 0, .ref kK, .ref kL, .ref kC, .ref kW, .ref kD, .long 0]))] H := hH ▸ hP
  rw [← hH]
  have hw_X5 : ∀ w ∈ wsX50, w ∈ wsX5_odds := by decide +kernel
  have f_88 := hts (.fieldLink RX5 88 "CubeTowerModel" "cubes" "I") (by decide +kernel)
  have hl := lv_entry ([.ref m0, .int w]) (n := 2) (Nat.le_of_ble_eq_true rfl)
  rw [lg_entry_eq]
  generalize (lg_sl ([.ref m0, .int w]) ++ List.replicate (2 - (lg_sl ([.ref m0, .int w])).length) Slot.unset).toArray = ls at hl ⊢
  have hl : lv_has ls 2 [(0, .ref m0), (1, .int w)] := hl
  refine lv_iload_n hx hb dX5_odds_0 rfl (lv_at hl 1 rfl) ?_
  refine lv_iconst (v := 0) hx hb dX5_odds_1 (by decide) ?_
  refine lv_iconst (v := 1) hx hb dX5_odds_2 (by decide) ?_
  refine kc_i (wc := []) (wr := [(m0, .inr (5, [.int 0, .int 0, .ref kO, .ref lO, .int 0, .int 0, .int 0, .ref sC, .ref sW, .ref sD, .int 0, .ref pG, .int 0, .int 0, .ref wO, .ref fO, .ref mO, .ref cO, .long 0, .ref th, .int 0, .int 0, .int 0, .int 0, .ref kK, .ref kL, .ref kC, .ref kW, .ref kD, .long 0]))]) (va_runS (As := [.int w, .int 0, .int 1]) (rest := []) ⟨hx, hb, hml, hown, hts⟩ (c_X5_within l D cy H.size w 0 1 ) (va_cwS 3 hts gX5_odds_X5_within rfl rfl rfl (by decide +kernel) ⟨Nat.le_of_ble_eq_true rfl, Nat.le_of_ble_eq_true rfl⟩) (cpre_S (wc := []) hX hP hD hS hA [] (by decide +kernel) rfl) rfl rfl hl.1 rfl (lv_room (Nat.le_of_ble_eq_true rfl)) dX5_odds_3 ⟨Nat.le_of_ble_eq_true rfl, Nat.le_of_ble_eq_true rfl⟩) hP hD hS hA [] [0] rfl rfl (by decide +kernel) (by decide +kernel) (fun ww u1 H locs hw hP hD hS => ?_)
  obtain ⟨hu, hww⟩ := hw
  subst hu
  have hP : va_P D vwCl [(m0, .inr (5, [.int 0, .int 0, .ref kO, .ref lO, .int 0, .int 0, .int 0, .ref sC, .ref sW, .ref sD, .int 0, .ref pG, .int 0, .int 0, .ref wO, .ref fO, .ref mO, .ref cO, .long 0, .ref th, .int 0, .int 0, .int 0, .int 0, .ref kK, .ref kL, .ref kC, .ref kW, .ref kD, .long 0]))] H := hP
  have hD : va_D A [(m0, .inr (5, [.int 0, .int 0, .ref kO, .ref lO, .int 0, .int 0, .int 0, .ref sC, .ref sW, .ref sD, .int 0, .ref pG, .int 0, .int 0, .ref wO, .ref fO, .ref mO, .ref cO, .long 0, .ref th, .int 0, .int 0, .int 0, .int 0, .ref kK, .ref kL, .ref kC, .ref kW, .ref kD, .long 0]))] := hD
  refine lv_if_ne (tgt := 12) hx hb dX5_odds_6 (by decide) (fun c_6 => ?_) (fun c_6 => ?_)
  · refine lv_aload_n hx hb dX5_odds_12 rfl (lv_at hl 0 rfl) ?_
    refine va_get (D := D) (ci := 5) (v := .int 0) (C := RX5) (T := TX5) (N := 30) hx hb hts hw_X5 hown hK hP 0 rfl rfl 1 (by decide) f_88 (fun _ h9 => h9) rfl dX5_odds_13 ?_
    refine lv_if_ne (tgt := 24) hx hb dX5_odds_16 (by decide) (fun c_16 => ?_) (fun c_16 => ?_)
    · exact absurd c_16 (by decide)
    · refine lv_bipush (v := (-103)) hx hb dX5_odds_19 (by decide) ?_
      refine lv_goto (tgt := 29) hx hb dX5_odds_21 (by decide) ?_
      have hP9 := hP.sub (ws' := [(m0, .inr (5, [.int 0, .int 0, .ref kO, .ref lO, .int 0, .int 0, .int 0, .ref sC, .ref sW, .ref sD, .int 0, .ref pG, .int 0, .int 0, .ref wO, .ref fO, .ref mO, .ref cO, .long 0, .ref th, .int 0, .int 0, .int 0, .int 0, .ref kK, .ref kL, .ref kC, .ref kW, .ref kD, .long 0]))]) [0] rfl
      have hD9 := hD.sub (ws' := [(m0, .inr (5, [.int 0, .int 0, .ref kO, .ref lO, .int 0, .int 0, .int 0, .ref sC, .ref sW, .ref sD, .int 0, .ref pG, .int 0, .int 0, .ref wO, .ref fO, .ref mO, .ref cO, .long 0, .ref th, .int 0, .int 0, .int 0, .int 0, .ref kK, .ref kL, .ref kC, .ref kW, .ref kD, .long 0]))]) [0] (by decide +kernel) rfl
      exact W.iret (v := (-103)) hx hb hr (fun t9 ht9 hW9 => ⟨⟨(-103), [(m0, .inr (5, [.int 0, .int 0, .ref kO, .ref lO, .int 0, .int 0, .int 0, .ref sC, .ref sW, .ref sD, .int 0, .ref pG, .int 0, .int 0, .ref wO, .ref fO, .ref mO, .ref cO, .long 0, .ref th, .int 0, .int 0, .int 0, .int 0, .ref kK, .ref kL, .ref kC, .ref kW, .ref kD, .long 0]))], rfl, ⟨rfl, (if_neg (wn1 hww c_6)).symm⟩, by rw [ht9]; exact hP9, hD9⟩, hS.F ht9⟩) hS.2.2 dX5_odds_29
  · refine lv_bipush (v := (-102)) hx hb dX5_odds_9 (by decide) ?_
    have hP9 := hP.sub (ws' := [(m0, .inr (5, [.int 0, .int 0, .ref kO, .ref lO, .int 0, .int 0, .int 0, .ref sC, .ref sW, .ref sD, .int 0, .ref pG, .int 0, .int 0, .ref wO, .ref fO, .ref mO, .ref cO, .long 0, .ref th, .int 0, .int 0, .int 0, .int 0, .ref kK, .ref kL, .ref kC, .ref kW, .ref kD, .long 0]))]) [0] rfl
    have hD9 := hD.sub (ws' := [(m0, .inr (5, [.int 0, .int 0, .ref kO, .ref lO, .int 0, .int 0, .int 0, .ref sC, .ref sW, .ref sD, .int 0, .ref pG, .int 0, .int 0, .ref wO, .ref fO, .ref mO, .ref cO, .long 0, .ref th, .int 0, .int 0, .int 0, .int 0, .ref kK, .ref kL, .ref kC, .ref kW, .ref kD, .long 0]))]) [0] (by decide +kernel) rfl
    exact W.iret (v := (-102)) hx hb hr (fun t9 ht9 hW9 => ⟨⟨(-102), [(m0, .inr (5, [.int 0, .int 0, .ref kO, .ref lO, .int 0, .int 0, .int 0, .ref sC, .ref sW, .ref sD, .int 0, .ref pG, .int 0, .int 0, .ref wO, .ref fO, .ref mO, .ref cO, .long 0, .ref th, .int 0, .int 0, .int 0, .int 0, .ref kK, .ref kL, .ref kC, .ref kW, .ref kD, .long 0]))], rfl, ⟨rfl, (if_pos (wn0 hww c_6)).symm⟩, by rw [ht9]; exact hP9, hD9⟩, hS.F ht9⟩) hS.2.2 dX5_odds_11
def q_X5_repaint (cy : Nat → ClassId) (m0 : Nat) (kO : Nat) (lO : Nat) (sC : Nat) (sW : Nat) (sD : Nat) (pG : Nat) (wO : Nat) (fO : Nat) (mO : Nat) (cO : Nat) (th : Nat) (kK : Nat) (kL : Nat) (kC : Nat) (kW : Nat) (kD : Nat) : Int32 → va_W → Prop := fun (r : Int32) (u : va_W) => u = [(m0, .inr (5, [.int 0, .int 0, .ref kO, .ref lO, .int 0, .int 0, .int 0, .ref sC, .ref sW, .ref sD, .int 0, .ref pG, .int 0, .int 0, .ref wO, .ref fO, .ref mO, .ref cO, .long 0, .ref th, .int 0, .int 0, .int 0, .int 0, .ref kK, .ref kL, .ref kC, .ref kW, .ref kD, .long 0]))] ∧ r = -103
set_option maxHeartbeats 4000000 in
set_option maxRecDepth 100000 in
theorem c_X5_repaint (l : Launch) (D : va_G) (cy : Nat → ClassId) (zz : Nat) (m0 : Nat) (kO : Nat) (lO : Nat) (sC : Nat) (sW : Nat) (sD : Nat) (pG : Nat) (wO : Nat) (fO : Nat) (mO : Nat) (cO : Nat) (th : Nat) (kK : Nat) (kL : Nat) (kC : Nat) (kW : Nat) (kD : Nat) : Met l yX5_repaint wsX5_repaint ({ frames := 0, cells := 0, slots := 0, locals := 0 } : Room) (va_Pc [.ref m0] (cpre D cy [(m0, .inr (5, [.int 0, .int 0, .ref kO, .ref lO, .int 0, .int 0, .int 0, .ref sC, .ref sW, .ref sD, .int 0, .ref pG, .int 0, .int 0, .ref wO, .ref fO, .ref mO, .ref cO, .long 0, .ref th, .int 0, .int 0, .int 0, .int 0, .ref kK, .ref kL, .ref kC, .ref kW, .ref kD, .long 0]))] zz)) (va_Qi (q_X5_repaint cy m0 kO lO sC sW sD pG wO fO mO cO th kK kL kC kW kD) (cpost D (va_A [(m0, .inr (5, [.int 0, .int 0, .ref kO, .ref lO, .int 0, .int 0, .int 0, .ref sC, .ref sW, .ref sD, .int 0, .ref pG, .int 0, .int 0, .ref wO, .ref fO, .ref mO, .ref cO, .long 0, .ref th, .int 0, .int 0, .int 0, .int 0, .ref kK, .ref kL, .ref kC, .ref kW, .ref kD, .long 0]))] zz)) (va_A [(m0, .inr (5, [.int 0, .int 0, .ref kO, .ref lO, .int 0, .int 0, .int 0, .ref sC, .ref sW, .ref sD, .int 0, .ref pG, .int 0, .int 0, .ref wO, .ref fO, .ref mO, .ref cO, .long 0, .ref th, .int 0, .int 0, .int 0, .int 0, .ref kK, .ref kL, .ref kC, .ref kW, .ref kD, .long 0]))] zz)) 0 0 (va_A [(m0, .inr (5, [.int 0, .int 0, .ref kO, .ref lO, .int 0, .int 0, .int 0, .ref sC, .ref sW, .ref sD, .int 0, .ref pG, .int 0, .int 0, .ref wO, .ref fO, .ref mO, .ref cO, .long 0, .ref th, .int 0, .int 0, .int 0, .int 0, .ref kK, .ref kL, .ref kC, .ref kW, .ref kD, .long 0]))] zz) := by
  refine Met.ofW (cc := cX5_repaint) (maxL := 1) (ret := (some .int)) (by decide) rfl ?_
  intro p e s m args below meth c s₁ B hml hv
  obtain ⟨rfl, hsz, hP, hD0, hX⟩ := hv
  have hx := B.exec
  have hb := B.bytes
  have hr := B.returns
  have hts := atoms_spec (ws := wsX5_repaint) B.pre
  have hown : s.vm.findClass RX5 = some m.cls := findClass_of_methodNamed B.named
  have hlocks := B.notSynchronized
  subst hsz
  have hD := hD0.self (sz := s.heap.size)
  generalize hAe : va_A [(m0, .inr (5, [.int 0, .int 0, .ref kO, .ref lO, .int 0, .int 0, .int 0, .ref sC, .ref sW, .ref sD, .int 0, .ref pG, .int 0, .int 0, .ref wO, .ref fO, .ref mO, .ref cO, .long 0, .ref th, .int 0, .int 0, .int 0, .int 0, .ref kK, .ref kL, .ref kC, .ref kW, .ref kD, .long 0]))] s.heap.size = A at hD hX ⊢
  have hA : ∀ q : Nat, s.heap.size ≤ q → A q := fun q h => by rw [← hAe]; exact Or.inr h
  obtain ⟨H, hH⟩ : ∃ H : Heap, H = s.heap := ⟨_, rfl⟩
  have hS : va_S A s.heap H [] := hH ▸ va_S.rf
  have hK := hX.1
  have hP : va_P D vwCl [(m0, .inr (5, [.int 0, .int 0, .ref kO, .ref lO, .int 0, .int 0, .int 0, .ref sC, .ref sW, .ref sD, .int 0, .ref pG, .int 0, .int 0, .ref wO, .ref fO, .ref mO, .ref cO, .long 0, .ref th, .int 0, .int 0, .int 0, .int 0, .ref kK, .ref kL, .ref kC, .ref kW, .ref kD, .long 0]))] H := hH ▸ hP
  rw [← hH]
  have hw_X5 : ∀ w ∈ wsX50, w ∈ wsX5_repaint := by decide +kernel
  have f_88 := hts (.fieldLink RX5 88 "CubeTowerModel" "cubes" "I") (by decide +kernel)
  have hl := lv_entry ([.ref m0]) (n := 1) (Nat.le_of_ble_eq_true rfl)
  rw [lg_entry_eq]
  generalize (lg_sl ([.ref m0]) ++ List.replicate (1 - (lg_sl ([.ref m0])).length) Slot.unset).toArray = ls at hl ⊢
  have hl : lv_has ls 1 [(0, .ref m0)] := hl
  refine lv_aload_n hx hb dX5_repaint_0 rfl (lv_at hl 0 rfl) ?_
  refine va_get (D := D) (ci := 5) (v := .int 0) (C := RX5) (T := TX5) (N := 30) hx hb hts hw_X5 hown hK hP 0 rfl rfl 1 (by decide) f_88 (fun _ h9 => h9) rfl dX5_repaint_1 ?_
  refine lv_if_eq (tgt := 16) hx hb dX5_repaint_4 (by decide) (fun c_4 => ?_) (fun c_4 => ?_)
  · refine lv_bipush (v := (-103)) hx hb dX5_repaint_16 (by decide) ?_
    have hP9 := hP.sub (ws' := [(m0, .inr (5, [.int 0, .int 0, .ref kO, .ref lO, .int 0, .int 0, .int 0, .ref sC, .ref sW, .ref sD, .int 0, .ref pG, .int 0, .int 0, .ref wO, .ref fO, .ref mO, .ref cO, .long 0, .ref th, .int 0, .int 0, .int 0, .int 0, .ref kK, .ref kL, .ref kC, .ref kW, .ref kD, .long 0]))]) [0] rfl
    have hD9 := hD.sub (ws' := [(m0, .inr (5, [.int 0, .int 0, .ref kO, .ref lO, .int 0, .int 0, .int 0, .ref sC, .ref sW, .ref sD, .int 0, .ref pG, .int 0, .int 0, .ref wO, .ref fO, .ref mO, .ref cO, .long 0, .ref th, .int 0, .int 0, .int 0, .int 0, .ref kK, .ref kL, .ref kC, .ref kW, .ref kD, .long 0]))]) [0] (by decide +kernel) rfl
    exact W.iret (v := (-103)) hx hb hr (fun t9 ht9 hW9 => ⟨⟨(-103), [(m0, .inr (5, [.int 0, .int 0, .ref kO, .ref lO, .int 0, .int 0, .int 0, .ref sC, .ref sW, .ref sD, .int 0, .ref pG, .int 0, .int 0, .ref wO, .ref fO, .ref mO, .ref cO, .long 0, .ref th, .int 0, .int 0, .int 0, .int 0, .ref kK, .ref kL, .ref kC, .ref kW, .ref kD, .long 0]))], rfl, ⟨rfl, rfl⟩, by rw [ht9]; exact hP9, hD9⟩, hS.F ht9⟩) hS.2.2 dX5_repaint_18
  · exact absurd c_4 (by decide)
def q_X5_image (cy : Nat → ClassId) (m0 : Nat) (kO : Nat) (lO : Nat) (sC : Nat) (sW : Nat) (sD : Nat) (pG : Nat) (wO : Nat) (fO : Nat) (mO : Nat) (cO : Nat) (th : Nat) (kK : Nat) (kL : Nat) (kC : Nat) (kW : Nat) (kD : Nat) : Int32 → va_W → Prop := fun (r : Int32) (u : va_W) => u = [(m0, .inr (5, [.int 0, .int 0, .ref kO, .ref lO, .int 0, .int 0, .int 0, .ref sC, .ref sW, .ref sD, .int 0, .ref pG, .int 0, .int 0, .ref wO, .ref fO, .ref mO, .ref cO, .long 0, .ref th, .int 0, .int 0, .int 0, .int 0, .ref kK, .ref kL, .ref kC, .ref kW, .ref kD, .long 0]))] ∧ r = -103
set_option maxHeartbeats 4000000 in
set_option maxRecDepth 100000 in
theorem c_X5_image (l : Launch) (D : va_G) (cy : Nat → ClassId) (zz : Nat) (m0 : Nat) (kO : Nat) (lO : Nat) (sC : Nat) (sW : Nat) (sD : Nat) (pG : Nat) (wO : Nat) (fO : Nat) (mO : Nat) (cO : Nat) (th : Nat) (kK : Nat) (kL : Nat) (kC : Nat) (kW : Nat) (kD : Nat) : Met l yX5_image wsX5_image ({ frames := 0, cells := 0, slots := 0, locals := 0 } : Room) (va_Pc [.ref m0] (cpre D cy [(m0, .inr (5, [.int 0, .int 0, .ref kO, .ref lO, .int 0, .int 0, .int 0, .ref sC, .ref sW, .ref sD, .int 0, .ref pG, .int 0, .int 0, .ref wO, .ref fO, .ref mO, .ref cO, .long 0, .ref th, .int 0, .int 0, .int 0, .int 0, .ref kK, .ref kL, .ref kC, .ref kW, .ref kD, .long 0]))] zz)) (va_Qi (q_X5_image cy m0 kO lO sC sW sD pG wO fO mO cO th kK kL kC kW kD) (cpost D (va_A [(m0, .inr (5, [.int 0, .int 0, .ref kO, .ref lO, .int 0, .int 0, .int 0, .ref sC, .ref sW, .ref sD, .int 0, .ref pG, .int 0, .int 0, .ref wO, .ref fO, .ref mO, .ref cO, .long 0, .ref th, .int 0, .int 0, .int 0, .int 0, .ref kK, .ref kL, .ref kC, .ref kW, .ref kD, .long 0]))] zz)) (va_A [(m0, .inr (5, [.int 0, .int 0, .ref kO, .ref lO, .int 0, .int 0, .int 0, .ref sC, .ref sW, .ref sD, .int 0, .ref pG, .int 0, .int 0, .ref wO, .ref fO, .ref mO, .ref cO, .long 0, .ref th, .int 0, .int 0, .int 0, .int 0, .ref kK, .ref kL, .ref kC, .ref kW, .ref kD, .long 0]))] zz)) 0 0 (va_A [(m0, .inr (5, [.int 0, .int 0, .ref kO, .ref lO, .int 0, .int 0, .int 0, .ref sC, .ref sW, .ref sD, .int 0, .ref pG, .int 0, .int 0, .ref wO, .ref fO, .ref mO, .ref cO, .long 0, .ref th, .int 0, .int 0, .int 0, .int 0, .ref kK, .ref kL, .ref kC, .ref kW, .ref kD, .long 0]))] zz) := by
  refine Met.ofW (cc := cX5_image) (maxL := 2) (ret := (some .int)) (by decide) rfl ?_
  intro p e s m args below meth c s₁ B hml hv
  obtain ⟨rfl, hsz, hP, hD0, hX⟩ := hv
  have hx := B.exec
  have hb := B.bytes
  have hr := B.returns
  have hts := atoms_spec (ws := wsX5_image) B.pre
  have hown : s.vm.findClass RX5 = some m.cls := findClass_of_methodNamed B.named
  have hlocks := B.notSynchronized
  subst hsz
  have hD := hD0.self (sz := s.heap.size)
  generalize hAe : va_A [(m0, .inr (5, [.int 0, .int 0, .ref kO, .ref lO, .int 0, .int 0, .int 0, .ref sC, .ref sW, .ref sD, .int 0, .ref pG, .int 0, .int 0, .ref wO, .ref fO, .ref mO, .ref cO, .long 0, .ref th, .int 0, .int 0, .int 0, .int 0, .ref kK, .ref kL, .ref kC, .ref kW, .ref kD, .long 0]))] s.heap.size = A at hD hX ⊢
  have hA : ∀ q : Nat, s.heap.size ≤ q → A q := fun q h => by rw [← hAe]; exact Or.inr h
  obtain ⟨H, hH⟩ : ∃ H : Heap, H = s.heap := ⟨_, rfl⟩
  have hS : va_S A s.heap H [] := hH ▸ va_S.rf
  have hK := hX.1
  have hP : va_P D vwCl [(m0, .inr (5, [.int 0, .int 0, .ref kO, .ref lO, .int 0, .int 0, .int 0, .ref sC, .ref sW, .ref sD, .int 0, .ref pG, .int 0, .int 0, .ref wO, .ref fO, .ref mO, .ref cO, .long 0, .ref th, .int 0, .int 0, .int 0, .int 0, .ref kK, .ref kL, .ref kC, .ref kW, .ref kD, .long 0]))] H := hH ▸ hP
  rw [← hH]
  have hw_X5 : ∀ w ∈ wsX50, w ∈ wsX5_image := by decide +kernel
  have f_88 := hts (.fieldLink RX5 88 "CubeTowerModel" "cubes" "I") (by decide +kernel)
  have hl := lv_entry ([.ref m0]) (n := 2) (Nat.le_of_ble_eq_true rfl)
  rw [lg_entry_eq]
  generalize (lg_sl ([.ref m0]) ++ List.replicate (2 - (lg_sl ([.ref m0])).length) Slot.unset).toArray = ls at hl ⊢
  have hl : lv_has ls 2 [(0, .ref m0)] := hl
  refine lv_aload_n hx hb dX5_image_0 rfl (lv_at hl 0 rfl) ?_
  refine va_get (D := D) (ci := 5) (v := .int 0) (C := RX5) (T := TX5) (N := 30) hx hb hts hw_X5 hown hK hP 0 rfl rfl 1 (by decide) f_88 (fun _ h9 => h9) rfl dX5_image_1 ?_
  refine lv_if_ne (tgt := 10) hx hb dX5_image_4 (by decide) (fun c_4 => ?_) (fun c_4 => ?_)
  · exact absurd c_4 (by decide)
  · refine lv_bipush (v := (-103)) hx hb dX5_image_7 (by decide) ?_
    have hP9 := hP.sub (ws' := [(m0, .inr (5, [.int 0, .int 0, .ref kO, .ref lO, .int 0, .int 0, .int 0, .ref sC, .ref sW, .ref sD, .int 0, .ref pG, .int 0, .int 0, .ref wO, .ref fO, .ref mO, .ref cO, .long 0, .ref th, .int 0, .int 0, .int 0, .int 0, .ref kK, .ref kL, .ref kC, .ref kW, .ref kD, .long 0]))]) [0] rfl
    have hD9 := hD.sub (ws' := [(m0, .inr (5, [.int 0, .int 0, .ref kO, .ref lO, .int 0, .int 0, .int 0, .ref sC, .ref sW, .ref sD, .int 0, .ref pG, .int 0, .int 0, .ref wO, .ref fO, .ref mO, .ref cO, .long 0, .ref th, .int 0, .int 0, .int 0, .int 0, .ref kK, .ref kL, .ref kC, .ref kW, .ref kD, .long 0]))]) [0] (by decide +kernel) rfl
    exact W.iret (v := (-103)) hx hb hr (fun t9 ht9 hW9 => ⟨⟨(-103), [(m0, .inr (5, [.int 0, .int 0, .ref kO, .ref lO, .int 0, .int 0, .int 0, .ref sC, .ref sW, .ref sD, .int 0, .ref pG, .int 0, .int 0, .ref wO, .ref fO, .ref mO, .ref cO, .long 0, .ref th, .int 0, .int 0, .int 0, .int 0, .ref kK, .ref kL, .ref kC, .ref kW, .ref kD, .long 0]))], rfl, ⟨rfl, rfl⟩, by rw [ht9]; exact hP9, hD9⟩, hS.F ht9⟩) hS.2.2 dX5_image_9
def q_X5_restore (cy : Nat → ClassId) (m0 : Nat) (kO : Nat) (lO : Nat) (sC : Nat) (sW : Nat) (sD : Nat) (pG : Nat) (wO : Nat) (fO : Nat) (mO : Nat) (cO : Nat) (th : Nat) (kK : Nat) (kL : Nat) (kC : Nat) (kW : Nat) (kD : Nat) : Int32 → va_W → Prop := fun (r : Int32) (u : va_W) => u = [(m0, .inr (5, [.int 0, .int 0, .ref kO, .ref lO, .int 0, .int 0, .int 0, .ref sC, .ref sW, .ref sD, .int 0, .ref pG, .int 0, .int 0, .ref wO, .ref fO, .ref mO, .ref cO, .long 0, .ref th, .int 0, .int 0, .int 0, .int 0, .ref kK, .ref kL, .ref kC, .ref kW, .ref kD, .long 0]))] ∧ r = -103
set_option maxHeartbeats 4000000 in
set_option maxRecDepth 100000 in
theorem c_X5_restore (l : Launch) (D : va_G) (cy : Nat → ClassId) (zz : Nat) (m0 : Nat) (kO : Nat) (lO : Nat) (sC : Nat) (sW : Nat) (sD : Nat) (pG : Nat) (wO : Nat) (fO : Nat) (mO : Nat) (cO : Nat) (th : Nat) (kK : Nat) (kL : Nat) (kC : Nat) (kW : Nat) (kD : Nat) : Met l yX5_restore wsX5_restore ({ frames := 0, cells := 0, slots := 0, locals := 0 } : Room) (va_Pc [.ref m0] (cpre D cy [(m0, .inr (5, [.int 0, .int 0, .ref kO, .ref lO, .int 0, .int 0, .int 0, .ref sC, .ref sW, .ref sD, .int 0, .ref pG, .int 0, .int 0, .ref wO, .ref fO, .ref mO, .ref cO, .long 0, .ref th, .int 0, .int 0, .int 0, .int 0, .ref kK, .ref kL, .ref kC, .ref kW, .ref kD, .long 0]))] zz)) (va_Qi (q_X5_restore cy m0 kO lO sC sW sD pG wO fO mO cO th kK kL kC kW kD) (cpost D (va_A [(m0, .inr (5, [.int 0, .int 0, .ref kO, .ref lO, .int 0, .int 0, .int 0, .ref sC, .ref sW, .ref sD, .int 0, .ref pG, .int 0, .int 0, .ref wO, .ref fO, .ref mO, .ref cO, .long 0, .ref th, .int 0, .int 0, .int 0, .int 0, .ref kK, .ref kL, .ref kC, .ref kW, .ref kD, .long 0]))] zz)) (va_A [(m0, .inr (5, [.int 0, .int 0, .ref kO, .ref lO, .int 0, .int 0, .int 0, .ref sC, .ref sW, .ref sD, .int 0, .ref pG, .int 0, .int 0, .ref wO, .ref fO, .ref mO, .ref cO, .long 0, .ref th, .int 0, .int 0, .int 0, .int 0, .ref kK, .ref kL, .ref kC, .ref kW, .ref kD, .long 0]))] zz)) 0 0 (va_A [(m0, .inr (5, [.int 0, .int 0, .ref kO, .ref lO, .int 0, .int 0, .int 0, .ref sC, .ref sW, .ref sD, .int 0, .ref pG, .int 0, .int 0, .ref wO, .ref fO, .ref mO, .ref cO, .long 0, .ref th, .int 0, .int 0, .int 0, .int 0, .ref kK, .ref kL, .ref kC, .ref kW, .ref kD, .long 0]))] zz) := by
  refine Met.ofW (cc := cX5_restore) (maxL := 2) (ret := (some .int)) (by decide) rfl ?_
  intro p e s m args below meth c s₁ B hml hv
  obtain ⟨rfl, hsz, hP, hD0, hX⟩ := hv
  have hx := B.exec
  have hb := B.bytes
  have hr := B.returns
  have hts := atoms_spec (ws := wsX5_restore) B.pre
  have hown : s.vm.findClass RX5 = some m.cls := findClass_of_methodNamed B.named
  have hlocks := B.notSynchronized
  subst hsz
  have hD := hD0.self (sz := s.heap.size)
  generalize hAe : va_A [(m0, .inr (5, [.int 0, .int 0, .ref kO, .ref lO, .int 0, .int 0, .int 0, .ref sC, .ref sW, .ref sD, .int 0, .ref pG, .int 0, .int 0, .ref wO, .ref fO, .ref mO, .ref cO, .long 0, .ref th, .int 0, .int 0, .int 0, .int 0, .ref kK, .ref kL, .ref kC, .ref kW, .ref kD, .long 0]))] s.heap.size = A at hD hX ⊢
  have hA : ∀ q : Nat, s.heap.size ≤ q → A q := fun q h => by rw [← hAe]; exact Or.inr h
  obtain ⟨H, hH⟩ : ∃ H : Heap, H = s.heap := ⟨_, rfl⟩
  have hS : va_S A s.heap H [] := hH ▸ va_S.rf
  have hK := hX.1
  have hP : va_P D vwCl [(m0, .inr (5, [.int 0, .int 0, .ref kO, .ref lO, .int 0, .int 0, .int 0, .ref sC, .ref sW, .ref sD, .int 0, .ref pG, .int 0, .int 0, .ref wO, .ref fO, .ref mO, .ref cO, .long 0, .ref th, .int 0, .int 0, .int 0, .int 0, .ref kK, .ref kL, .ref kC, .ref kW, .ref kD, .long 0]))] H := hH ▸ hP
  rw [← hH]
  have hw_X5 : ∀ w ∈ wsX50, w ∈ wsX5_restore := by decide +kernel
  have f_252 := hts (.fieldLink RX5 252 "CubeTowerModel" "isKept" "Z") (by decide +kernel)
  have hl := lv_entry ([.ref m0]) (n := 2) (Nat.le_of_ble_eq_true rfl)
  rw [lg_entry_eq]
  generalize (lg_sl ([.ref m0]) ++ List.replicate (2 - (lg_sl ([.ref m0])).length) Slot.unset).toArray = ls at hl ⊢
  have hl : lv_has ls 2 [(0, .ref m0)] := hl
  refine lv_aload_n hx hb dX5_restore_0 rfl (lv_at hl 0 rfl) ?_
  refine va_get (D := D) (ci := 5) (v := .int 0) (C := RX5) (T := TX5) (N := 30) hx hb hts hw_X5 hown hK hP 0 rfl rfl 20 (by decide) f_252 (fun _ h9 => h9) rfl dX5_restore_1 ?_
  refine lv_if_eq (tgt := 18) hx hb dX5_restore_4 (by decide) (fun c_4 => ?_) (fun c_4 => ?_)
  · refine lv_bipush (v := (-103)) hx hb dX5_restore_18 (by decide) ?_
    have hP9 := hP.sub (ws' := [(m0, .inr (5, [.int 0, .int 0, .ref kO, .ref lO, .int 0, .int 0, .int 0, .ref sC, .ref sW, .ref sD, .int 0, .ref pG, .int 0, .int 0, .ref wO, .ref fO, .ref mO, .ref cO, .long 0, .ref th, .int 0, .int 0, .int 0, .int 0, .ref kK, .ref kL, .ref kC, .ref kW, .ref kD, .long 0]))]) [0] rfl
    have hD9 := hD.sub (ws' := [(m0, .inr (5, [.int 0, .int 0, .ref kO, .ref lO, .int 0, .int 0, .int 0, .ref sC, .ref sW, .ref sD, .int 0, .ref pG, .int 0, .int 0, .ref wO, .ref fO, .ref mO, .ref cO, .long 0, .ref th, .int 0, .int 0, .int 0, .int 0, .ref kK, .ref kL, .ref kC, .ref kW, .ref kD, .long 0]))]) [0] (by decide +kernel) rfl
    exact W.iret (v := (-103)) hx hb hr (fun t9 ht9 hW9 => ⟨⟨(-103), [(m0, .inr (5, [.int 0, .int 0, .ref kO, .ref lO, .int 0, .int 0, .int 0, .ref sC, .ref sW, .ref sD, .int 0, .ref pG, .int 0, .int 0, .ref wO, .ref fO, .ref mO, .ref cO, .long 0, .ref th, .int 0, .int 0, .int 0, .int 0, .ref kK, .ref kL, .ref kC, .ref kW, .ref kD, .long 0]))], rfl, ⟨rfl, rfl⟩, by rw [ht9]; exact hP9, hD9⟩, hS.F ht9⟩) hS.2.2 dX5_restore_20
  · exact absurd c_4 (by decide)
def q_X5_runs (cy : Nat → ClassId) (m0 : Nat) (kO : Nat) (lO : Nat) (sC : Nat) (sW : Nat) (sD : Nat) (pG : Nat) (wO : Nat) (fO : Nat) (mO : Nat) (cO : Nat) (th : Nat) (kK : Nat) (kL : Nat) (kC : Nat) (kW : Nat) (kD : Nat) (t : Int32) (s0 : Int32) (w : Int32) : Int32 → va_W → Prop := fun (r : Int32) (u : va_W) => u = [(m0, .inr (5, [.int 0, .int 0, .ref kO, .ref lO, .int 0, .int 0, .int 0, .ref sC, .ref sW, .ref sD, .int 0, .ref pG, .int 0, .int 0, .ref wO, .ref fO, .ref mO, .ref cO, .long 0, .ref th, .int 0, .int 0, .int 0, .int 0, .ref kK, .ref kL, .ref kC, .ref kW, .ref kD, .long 0]))] ∧ r = (if t < 1 ∨ 99 < t ∨ s0 < 0 ∨ w < 0 ∨ ¬ w ≤ 2 then -102 else -103)
set_option maxHeartbeats 4000000 in
set_option maxRecDepth 100000 in
theorem c_X5_runs (l : Launch) (D : va_G) (cy : Nat → ClassId) (zz : Nat) (m0 : Nat) (kO : Nat) (lO : Nat) (sC : Nat) (sW : Nat) (sD : Nat) (pG : Nat) (wO : Nat) (fO : Nat) (mO : Nat) (cO : Nat) (th : Nat) (kK : Nat) (kL : Nat) (kC : Nat) (kW : Nat) (kD : Nat) (t : Int32) (s0 : Int32) (w : Int32) : Met l yX5_runs wsX5_runs ({ frames := 1, cells := 0, slots := 0, locals := 22 } : Room) (va_Pc [.ref m0, .int t, .int s0, .int w] (cpre D cy [(m0, .inr (5, [.int 0, .int 0, .ref kO, .ref lO, .int 0, .int 0, .int 0, .ref sC, .ref sW, .ref sD, .int 0, .ref pG, .int 0, .int 0, .ref wO, .ref fO, .ref mO, .ref cO, .long 0, .ref th, .int 0, .int 0, .int 0, .int 0, .ref kK, .ref kL, .ref kC, .ref kW, .ref kD, .long 0]))] zz)) (va_Qi (q_X5_runs cy m0 kO lO sC sW sD pG wO fO mO cO th kK kL kC kW kD t s0 w) (cpost D (va_A [(m0, .inr (5, [.int 0, .int 0, .ref kO, .ref lO, .int 0, .int 0, .int 0, .ref sC, .ref sW, .ref sD, .int 0, .ref pG, .int 0, .int 0, .ref wO, .ref fO, .ref mO, .ref cO, .long 0, .ref th, .int 0, .int 0, .int 0, .int 0, .ref kK, .ref kL, .ref kC, .ref kW, .ref kD, .long 0]))] zz)) (va_A [(m0, .inr (5, [.int 0, .int 0, .ref kO, .ref lO, .int 0, .int 0, .int 0, .ref sC, .ref sW, .ref sD, .int 0, .ref pG, .int 0, .int 0, .ref wO, .ref fO, .ref mO, .ref cO, .long 0, .ref th, .int 0, .int 0, .int 0, .int 0, .ref kK, .ref kL, .ref kC, .ref kW, .ref kD, .long 0]))] zz)) 0 0 (va_A [(m0, .inr (5, [.int 0, .int 0, .ref kO, .ref lO, .int 0, .int 0, .int 0, .ref sC, .ref sW, .ref sD, .int 0, .ref pG, .int 0, .int 0, .ref wO, .ref fO, .ref mO, .ref cO, .long 0, .ref th, .int 0, .int 0, .int 0, .int 0, .ref kK, .ref kL, .ref kC, .ref kW, .ref kD, .long 0]))] zz) := by
  refine Met.ofW (cc := cX5_runs) (maxL := 4) (ret := (some .int)) (by decide) rfl ?_
  intro p e s m args below meth c s₁ B hml hv
  obtain ⟨rfl, hsz, hP, hD0, hX⟩ := hv
  have hx := B.exec
  have hb := B.bytes
  have hr := B.returns
  have hts := atoms_spec (ws := wsX5_runs) B.pre
  have hown : s.vm.findClass RX5 = some m.cls := findClass_of_methodNamed B.named
  have hlocks := B.notSynchronized
  subst hsz
  have hD := hD0.self (sz := s.heap.size)
  generalize hAe : va_A [(m0, .inr (5, [.int 0, .int 0, .ref kO, .ref lO, .int 0, .int 0, .int 0, .ref sC, .ref sW, .ref sD, .int 0, .ref pG, .int 0, .int 0, .ref wO, .ref fO, .ref mO, .ref cO, .long 0, .ref th, .int 0, .int 0, .int 0, .int 0, .ref kK, .ref kL, .ref kC, .ref kW, .ref kD, .long 0]))] s.heap.size = A at hD hX ⊢
  have hA : ∀ q : Nat, s.heap.size ≤ q → A q := fun q h => by rw [← hAe]; exact Or.inr h
  obtain ⟨H, hH⟩ : ∃ H : Heap, H = s.heap := ⟨_, rfl⟩
  have hS : va_S A s.heap H [] := hH ▸ va_S.rf
  have hK := hX.1
  have hP : va_P D vwCl [(m0, .inr (5, [.int 0, .int 0, .ref kO, .ref lO, .int 0, .int 0, .int 0, .ref sC, .ref sW, .ref sD, .int 0, .ref pG, .int 0, .int 0, .ref wO, .ref fO, .ref mO, .ref cO, .long 0, .ref th, .int 0, .int 0, .int 0, .int 0, .ref kK, .ref kL, .ref kC, .ref kW, .ref kD, .long 0]))] H := hH ▸ hP
  rw [← hH]
  have hw_X5 : ∀ w ∈ wsX50, w ∈ wsX5_runs := by decide +kernel
  have f_88 := hts (.fieldLink RX5 88 "CubeTowerModel" "cubes" "I") (by decide +kernel)
  have hl := lv_entry ([.ref m0, .int t, .int s0, .int w]) (n := 4) (Nat.le_of_ble_eq_true rfl)
  rw [lg_entry_eq]
  generalize (lg_sl ([.ref m0, .int t, .int s0, .int w]) ++ List.replicate (4 - (lg_sl ([.ref m0, .int t, .int s0, .int w])).length) Slot.unset).toArray = ls at hl ⊢
  have hl : lv_has ls 4 [(0, .ref m0), (1, .int t), (2, .int s0), (3, .int w)] := hl
  refine lv_iload_n hx hb dX5_runs_0 rfl (lv_at hl 1 rfl) ?_
  refine lv_iconst (v := 1) hx hb dX5_runs_1 (by decide) ?_
  refine lv_bipush (v := 99) hx hb dX5_runs_2 (by decide) ?_
  refine kc_i (wc := []) (wr := [(m0, .inr (5, [.int 0, .int 0, .ref kO, .ref lO, .int 0, .int 0, .int 0, .ref sC, .ref sW, .ref sD, .int 0, .ref pG, .int 0, .int 0, .ref wO, .ref fO, .ref mO, .ref cO, .long 0, .ref th, .int 0, .int 0, .int 0, .int 0, .ref kK, .ref kL, .ref kC, .ref kW, .ref kD, .long 0]))]) (va_runS (As := [.int t, .int 1, .int 99]) (rest := []) ⟨hx, hb, hml, hown, hts⟩ (c_X5_within l D cy H.size t 1 99 ) (va_cwS 3 hts gX5_runs_X5_within rfl rfl rfl (by decide +kernel) ⟨Nat.le_of_ble_eq_true rfl, Nat.le_of_ble_eq_true rfl⟩) (cpre_S (wc := []) hX hP hD hS hA [] (by decide +kernel) rfl) rfl rfl hl.1 rfl (lv_room (Nat.le_of_ble_eq_true rfl)) dX5_runs_4 ⟨Nat.le_of_ble_eq_true rfl, Nat.le_of_ble_eq_true rfl⟩) hP hD hS hA [] [0] rfl rfl (by decide +kernel) (by decide +kernel) (fun rw1 u1 H locs hw hP hD hS => ?_)
  obtain ⟨hu, hw1⟩ := hw
  subst hu
  have hP : va_P D vwCl [(m0, .inr (5, [.int 0, .int 0, .ref kO, .ref lO, .int 0, .int 0, .int 0, .ref sC, .ref sW, .ref sD, .int 0, .ref pG, .int 0, .int 0, .ref wO, .ref fO, .ref mO, .ref cO, .long 0, .ref th, .int 0, .int 0, .int 0, .int 0, .ref kK, .ref kL, .ref kC, .ref kW, .ref kD, .long 0]))] H := hP
  have hD : va_D A [(m0, .inr (5, [.int 0, .int 0, .ref kO, .ref lO, .int 0, .int 0, .int 0, .ref sC, .ref sW, .ref sD, .int 0, .ref pG, .int 0, .int 0, .ref wO, .ref fO, .ref mO, .ref cO, .long 0, .ref th, .int 0, .int 0, .int 0, .int 0, .ref kK, .ref kL, .ref kC, .ref kW, .ref kD, .long 0]))] := hD
  refine lv_if_eq (tgt := 23) hx hb dX5_runs_7 (by decide) (fun c_7 => ?_) (fun c_7 => ?_)
  · refine lv_bipush (v := (-102)) hx hb dX5_runs_23 (by decide) ?_
    have hP9 := hP.sub (ws' := [(m0, .inr (5, [.int 0, .int 0, .ref kO, .ref lO, .int 0, .int 0, .int 0, .ref sC, .ref sW, .ref sD, .int 0, .ref pG, .int 0, .int 0, .ref wO, .ref fO, .ref mO, .ref cO, .long 0, .ref th, .int 0, .int 0, .int 0, .int 0, .ref kK, .ref kL, .ref kC, .ref kW, .ref kD, .long 0]))]) [0] rfl
    have hD9 := hD.sub (ws' := [(m0, .inr (5, [.int 0, .int 0, .ref kO, .ref lO, .int 0, .int 0, .int 0, .ref sC, .ref sW, .ref sD, .int 0, .ref pG, .int 0, .int 0, .ref wO, .ref fO, .ref mO, .ref cO, .long 0, .ref th, .int 0, .int 0, .int 0, .int 0, .ref kK, .ref kL, .ref kC, .ref kW, .ref kD, .long 0]))]) [0] (by decide +kernel) rfl
    exact W.iret (v := (-102)) hx hb hr (fun t9 ht9 hW9 => ⟨⟨(-102), [(m0, .inr (5, [.int 0, .int 0, .ref kO, .ref lO, .int 0, .int 0, .int 0, .ref sC, .ref sW, .ref sD, .int 0, .ref pG, .int 0, .int 0, .ref wO, .ref fO, .ref mO, .ref cO, .long 0, .ref th, .int 0, .int 0, .int 0, .int 0, .ref kK, .ref kL, .ref kC, .ref kW, .ref kD, .long 0]))], rfl, ⟨rfl, (if_pos ((wn0 hw1 c_7).elim Or.inl (fun q => Or.inr (Or.inl (Int32.not_le.mp q))))).symm⟩, by rw [ht9]; exact hP9, hD9⟩, hS.F ht9⟩) hS.2.2 dX5_runs_25
  · refine lv_iload_n hx hb dX5_runs_10 rfl (lv_at hl 2 rfl) ?_
    refine lv_if_lt (tgt := 23) hx hb dX5_runs_11 (by decide) (fun c_11 => ?_) (fun c_11 => ?_)
    · refine lv_bipush (v := (-102)) hx hb dX5_runs_23 (by decide) ?_
      have hP9 := hP.sub (ws' := [(m0, .inr (5, [.int 0, .int 0, .ref kO, .ref lO, .int 0, .int 0, .int 0, .ref sC, .ref sW, .ref sD, .int 0, .ref pG, .int 0, .int 0, .ref wO, .ref fO, .ref mO, .ref cO, .long 0, .ref th, .int 0, .int 0, .int 0, .int 0, .ref kK, .ref kL, .ref kC, .ref kW, .ref kD, .long 0]))]) [0] rfl
      have hD9 := hD.sub (ws' := [(m0, .inr (5, [.int 0, .int 0, .ref kO, .ref lO, .int 0, .int 0, .int 0, .ref sC, .ref sW, .ref sD, .int 0, .ref pG, .int 0, .int 0, .ref wO, .ref fO, .ref mO, .ref cO, .long 0, .ref th, .int 0, .int 0, .int 0, .int 0, .ref kK, .ref kL, .ref kC, .ref kW, .ref kD, .long 0]))]) [0] (by decide +kernel) rfl
      exact W.iret (v := (-102)) hx hb hr (fun t9 ht9 hW9 => ⟨⟨(-102), [(m0, .inr (5, [.int 0, .int 0, .ref kO, .ref lO, .int 0, .int 0, .int 0, .ref sC, .ref sW, .ref sD, .int 0, .ref pG, .int 0, .int 0, .ref wO, .ref fO, .ref mO, .ref cO, .long 0, .ref th, .int 0, .int 0, .int 0, .int 0, .ref kK, .ref kL, .ref kC, .ref kW, .ref kD, .long 0]))], rfl, ⟨rfl, (if_pos (Or.inr (Or.inr (Or.inl c_11)))).symm⟩, by rw [ht9]; exact hP9, hD9⟩, hS.F ht9⟩) hS.2.2 dX5_runs_25
    · refine lv_iload_n hx hb dX5_runs_14 rfl (lv_at hl 3 rfl) ?_
      refine lv_iconst (v := 0) hx hb dX5_runs_15 (by decide) ?_
      refine lv_iconst (v := 2) hx hb dX5_runs_16 (by decide) ?_
      refine kc_i (wc := []) (wr := [(m0, .inr (5, [.int 0, .int 0, .ref kO, .ref lO, .int 0, .int 0, .int 0, .ref sC, .ref sW, .ref sD, .int 0, .ref pG, .int 0, .int 0, .ref wO, .ref fO, .ref mO, .ref cO, .long 0, .ref th, .int 0, .int 0, .int 0, .int 0, .ref kK, .ref kL, .ref kC, .ref kW, .ref kD, .long 0]))]) (va_runS (As := [.int w, .int 0, .int 2]) (rest := []) ⟨hx, hb, hml, hown, hts⟩ (c_X5_within l D cy H.size w 0 2 ) (va_cwS 3 hts gX5_runs_X5_within rfl rfl rfl (by decide +kernel) ⟨Nat.le_of_ble_eq_true rfl, Nat.le_of_ble_eq_true rfl⟩) (cpre_S (wc := []) hX hP hD hS hA [] (by decide +kernel) rfl) rfl rfl hl.1 rfl (lv_room (Nat.le_of_ble_eq_true rfl)) dX5_runs_17 ⟨Nat.le_of_ble_eq_true rfl, Nat.le_of_ble_eq_true rfl⟩) hP hD hS hA [] [0] rfl rfl (by decide +kernel) (by decide +kernel) (fun rw2 u2 H locs hw hP hD hS => ?_)
      obtain ⟨hu, hw2⟩ := hw
      subst hu
      have hP : va_P D vwCl [(m0, .inr (5, [.int 0, .int 0, .ref kO, .ref lO, .int 0, .int 0, .int 0, .ref sC, .ref sW, .ref sD, .int 0, .ref pG, .int 0, .int 0, .ref wO, .ref fO, .ref mO, .ref cO, .long 0, .ref th, .int 0, .int 0, .int 0, .int 0, .ref kK, .ref kL, .ref kC, .ref kW, .ref kD, .long 0]))] H := hP
      have hD : va_D A [(m0, .inr (5, [.int 0, .int 0, .ref kO, .ref lO, .int 0, .int 0, .int 0, .ref sC, .ref sW, .ref sD, .int 0, .ref pG, .int 0, .int 0, .ref wO, .ref fO, .ref mO, .ref cO, .long 0, .ref th, .int 0, .int 0, .int 0, .int 0, .ref kK, .ref kL, .ref kC, .ref kW, .ref kD, .long 0]))] := hD
      refine lv_if_ne (tgt := 26) hx hb dX5_runs_20 (by decide) (fun c_20 => ?_) (fun c_20 => ?_)
      · refine lv_aload_n hx hb dX5_runs_26 rfl (lv_at hl 0 rfl) ?_
        refine va_get (D := D) (ci := 5) (v := .int 0) (C := RX5) (T := TX5) (N := 30) hx hb hts hw_X5 hown hK hP 0 rfl rfl 1 (by decide) f_88 (fun _ h9 => h9) rfl dX5_runs_27 ?_
        refine lv_if_ne (tgt := 38) hx hb dX5_runs_30 (by decide) (fun c_30 => ?_) (fun c_30 => ?_)
        · exact absurd c_30 (by decide)
        · refine lv_bipush (v := (-103)) hx hb dX5_runs_33 (by decide) ?_
          refine lv_goto (tgt := 45) hx hb dX5_runs_35 (by decide) ?_
          have hP9 := hP.sub (ws' := [(m0, .inr (5, [.int 0, .int 0, .ref kO, .ref lO, .int 0, .int 0, .int 0, .ref sC, .ref sW, .ref sD, .int 0, .ref pG, .int 0, .int 0, .ref wO, .ref fO, .ref mO, .ref cO, .long 0, .ref th, .int 0, .int 0, .int 0, .int 0, .ref kK, .ref kL, .ref kC, .ref kW, .ref kD, .long 0]))]) [0] rfl
          have hD9 := hD.sub (ws' := [(m0, .inr (5, [.int 0, .int 0, .ref kO, .ref lO, .int 0, .int 0, .int 0, .ref sC, .ref sW, .ref sD, .int 0, .ref pG, .int 0, .int 0, .ref wO, .ref fO, .ref mO, .ref cO, .long 0, .ref th, .int 0, .int 0, .int 0, .int 0, .ref kK, .ref kL, .ref kC, .ref kW, .ref kD, .long 0]))]) [0] (by decide +kernel) rfl
          exact W.iret (v := (-103)) hx hb hr (fun t9 ht9 hW9 => ⟨⟨(-103), [(m0, .inr (5, [.int 0, .int 0, .ref kO, .ref lO, .int 0, .int 0, .int 0, .ref sC, .ref sW, .ref sD, .int 0, .ref pG, .int 0, .int 0, .ref wO, .ref fO, .ref mO, .ref cO, .long 0, .ref th, .int 0, .int 0, .int 0, .int 0, .ref kK, .ref kL, .ref kC, .ref kW, .ref kD, .long 0]))], rfl, ⟨rfl, (if_neg (fun h => h.elim (fun q => wn1 hw1 c_7 (Or.inl q)) (fun h => h.elim (fun q => wn1 hw1 c_7 (Or.inr (Int32.not_le.mpr q))) (fun h => h.elim c_11 (fun h => wn1 hw2 c_20 h))))).symm⟩, by rw [ht9]; exact hP9, hD9⟩, hS.F ht9⟩) hS.2.2 dX5_runs_45
      · refine lv_bipush (v := (-102)) hx hb dX5_runs_23 (by decide) ?_
        have hP9 := hP.sub (ws' := [(m0, .inr (5, [.int 0, .int 0, .ref kO, .ref lO, .int 0, .int 0, .int 0, .ref sC, .ref sW, .ref sD, .int 0, .ref pG, .int 0, .int 0, .ref wO, .ref fO, .ref mO, .ref cO, .long 0, .ref th, .int 0, .int 0, .int 0, .int 0, .ref kK, .ref kL, .ref kC, .ref kW, .ref kD, .long 0]))]) [0] rfl
        have hD9 := hD.sub (ws' := [(m0, .inr (5, [.int 0, .int 0, .ref kO, .ref lO, .int 0, .int 0, .int 0, .ref sC, .ref sW, .ref sD, .int 0, .ref pG, .int 0, .int 0, .ref wO, .ref fO, .ref mO, .ref cO, .long 0, .ref th, .int 0, .int 0, .int 0, .int 0, .ref kK, .ref kL, .ref kC, .ref kW, .ref kD, .long 0]))]) [0] (by decide +kernel) rfl
        exact W.iret (v := (-102)) hx hb hr (fun t9 ht9 hW9 => ⟨⟨(-102), [(m0, .inr (5, [.int 0, .int 0, .ref kO, .ref lO, .int 0, .int 0, .int 0, .ref sC, .ref sW, .ref sD, .int 0, .ref pG, .int 0, .int 0, .ref wO, .ref fO, .ref mO, .ref cO, .long 0, .ref th, .int 0, .int 0, .int 0, .int 0, .ref kK, .ref kL, .ref kC, .ref kW, .ref kD, .long 0]))], rfl, ⟨rfl, (if_pos (Or.inr (Or.inr (Or.inr (wn0 hw2 c_20))))).symm⟩, by rw [ht9]; exact hP9, hD9⟩, hS.F ht9⟩) hS.2.2 dX5_runs_25
