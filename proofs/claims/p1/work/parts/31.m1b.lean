def q_X5_letter (cy : Nat → ClassId) (m0 : Nat) (kO : Nat) (lO : Nat) (sC : Nat) (sW : Nat) (sD : Nat) (pG : Nat) (wO : Nat) (fO : Nat) (mO : Nat) (cO : Nat) (th : Nat) (kK : Nat) (kL : Nat) (kC : Nat) (kW : Nat) (kD : Nat) (lt : Nat) (f : Nat → Int32) (cu : Int32) : Int32 → va_W → Prop := fun (r : Int32) (u : va_W) => ∃ (l2 : Nat), ∃ (f2 : Nat → Int32), u = [(m0, .inr (5, [.int 0, .int 0, .ref kO, .ref lO, .int 0, .int 0, .int 0, .ref sC, .ref sW, .ref sD, .int (nI l2), .ref pG, .int 0, .int 0, .ref wO, .ref fO, .ref mO, .ref cO, .long 0, .ref th, .int 0, .int 0, .int 0, .int 0, .ref kK, .ref kL, .ref kC, .ref kW, .ref kD, .long 0])), (pG, .inl (cy 1, 26, .inl f2))] ∧ (((cu < 32 ∨ ¬ cu ≤ 126) ∧ r = -102 ∧ l2 = lt ∧ f2 = f) ∨ (¬ (cu < 32 ∨ ¬ cu ≤ 126) ∧ lt = 26 ∧ r = -104 ∧ l2 = lt ∧ f2 = f) ∨ (¬ (cu < 32 ∨ ¬ cu ≤ 126) ∧ lt < 26 ∧ r = nI (lt + 1) ∧ l2 = lt + 1 ∧ f2 = upd f lt (vp_nar .byte cu.toInt8.toInt32)))
set_option maxHeartbeats 4000000 in
set_option maxRecDepth 100000 in
theorem c_X5_letter (l : Launch) (D : va_G) (cy : Nat → ClassId) (zz : Nat) (m0 : Nat) (kO : Nat) (lO : Nat) (sC : Nat) (sW : Nat) (sD : Nat) (pG : Nat) (wO : Nat) (fO : Nat) (mO : Nat) (cO : Nat) (th : Nat) (kK : Nat) (kL : Nat) (kC : Nat) (kW : Nat) (kD : Nat) (lt : Nat) (f : Nat → Int32) (cu : Int32) (hlt : lt ≤ 26) : Met l yX5_letter wsX5_letter ({ frames := 1, cells := 0, slots := 0, locals := 22 } : Room) (va_Pc [.ref m0, .int cu] (cpre D cy [(m0, .inr (5, [.int 0, .int 0, .ref kO, .ref lO, .int 0, .int 0, .int 0, .ref sC, .ref sW, .ref sD, .int (nI lt), .ref pG, .int 0, .int 0, .ref wO, .ref fO, .ref mO, .ref cO, .long 0, .ref th, .int 0, .int 0, .int 0, .int 0, .ref kK, .ref kL, .ref kC, .ref kW, .ref kD, .long 0])), (pG, .inl (cy 1, 26, .inl f))] zz)) (va_Qi (q_X5_letter cy m0 kO lO sC sW sD pG wO fO mO cO th kK kL kC kW kD lt f cu) (cpost D (va_A [(m0, .inr (5, [.int 0, .int 0, .ref kO, .ref lO, .int 0, .int 0, .int 0, .ref sC, .ref sW, .ref sD, .int (nI lt), .ref pG, .int 0, .int 0, .ref wO, .ref fO, .ref mO, .ref cO, .long 0, .ref th, .int 0, .int 0, .int 0, .int 0, .ref kK, .ref kL, .ref kC, .ref kW, .ref kD, .long 0])), (pG, .inl (cy 1, 26, .inl f))] zz)) (va_A [(m0, .inr (5, [.int 0, .int 0, .ref kO, .ref lO, .int 0, .int 0, .int 0, .ref sC, .ref sW, .ref sD, .int (nI lt), .ref pG, .int 0, .int 0, .ref wO, .ref fO, .ref mO, .ref cO, .long 0, .ref th, .int 0, .int 0, .int 0, .int 0, .ref kK, .ref kL, .ref kC, .ref kW, .ref kD, .long 0])), (pG, .inl (cy 1, 26, .inl f))] zz)) 0 0 (va_A [(m0, .inr (5, [.int 0, .int 0, .ref kO, .ref lO, .int 0, .int 0, .int 0, .ref sC, .ref sW, .ref sD, .int (nI lt), .ref pG, .int 0, .int 0, .ref wO, .ref fO, .ref mO, .ref cO, .long 0, .ref th, .int 0, .int 0, .int 0, .int 0, .ref kK, .ref kL, .ref kC, .ref kW, .ref kD, .long 0])), (pG, .inl (cy 1, 26, .inl f))] zz) := by
  refine Met.ofW (cc := cX5_letter) (maxL := 2) (ret := (some .int)) (by decide) rfl ?_
  intro p e s m args below meth c s₁ B hml hv
  obtain ⟨rfl, hsz, hP, hD0, hX⟩ := hv
  have hx := B.exec
  have hb := B.bytes
  have hr := B.returns
  have hts := atoms_spec (ws := wsX5_letter) B.pre
  have hown : s.vm.findClass RX5 = some m.cls := findClass_of_methodNamed B.named
  have hlocks := B.notSynchronized
  subst hsz
  have hD := hD0.self (sz := s.heap.size)
  generalize hAe : va_A [(m0, .inr (5, [.int 0, .int 0, .ref kO, .ref lO, .int 0, .int 0, .int 0, .ref sC, .ref sW, .ref sD, .int (nI lt), .ref pG, .int 0, .int 0, .ref wO, .ref fO, .ref mO, .ref cO, .long 0, .ref th, .int 0, .int 0, .int 0, .int 0, .ref kK, .ref kL, .ref kC, .ref kW, .ref kD, .long 0])), (pG, .inl (cy 1, 26, .inl f))] s.heap.size = A at hD hX ⊢
  have hA : ∀ q : Nat, s.heap.size ≤ q → A q := fun q h => by rw [← hAe]; exact Or.inr h
  obtain ⟨H, hH⟩ : ∃ H : Heap, H = s.heap := ⟨_, rfl⟩
  have hS : va_S A s.heap H [] := hH ▸ va_S.rf
  have hK := hX.1
  have hP : va_P D vwCl [(m0, .inr (5, [.int 0, .int 0, .ref kO, .ref lO, .int 0, .int 0, .int 0, .ref sC, .ref sW, .ref sD, .int (nI lt), .ref pG, .int 0, .int 0, .ref wO, .ref fO, .ref mO, .ref cO, .long 0, .ref th, .int 0, .int 0, .int 0, .int 0, .ref kK, .ref kL, .ref kC, .ref kW, .ref kD, .long 0])), (pG, .inl (cy 1, 26, .inl f))] H := hH ▸ hP
  rw [← hH]
  have hw_X5 : ∀ w ∈ wsX50, w ∈ wsX5_letter := by decide +kernel
  have f_63 := hts (.fieldLink RX5 63 "CubeTowerModel" "pageLength" "I") (by decide +kernel)
  have f_25 := hts (.fieldLink RX5 25 "CubeTowerModel" "page" "[B") (by decide +kernel)
  have hl := lv_entry ([.ref m0, .int cu]) (n := 2) (Nat.le_of_ble_eq_true rfl)
  rw [lg_entry_eq]
  generalize (lg_sl ([.ref m0, .int cu]) ++ List.replicate (2 - (lg_sl ([.ref m0, .int cu])).length) Slot.unset).toArray = ls at hl ⊢
  have hl : lv_has ls 2 [(0, .ref m0), (1, .int cu)] := hl
  refine lv_iload_n hx hb dX5_letter_0 rfl (lv_at hl 1 rfl) ?_
  refine lv_bipush (v := 32) hx hb dX5_letter_1 (by decide) ?_
  refine lv_bipush (v := 126) hx hb dX5_letter_3 (by decide) ?_
  refine kc_i (wc := []) (wr := [(m0, .inr (5, [.int 0, .int 0, .ref kO, .ref lO, .int 0, .int 0, .int 0, .ref sC, .ref sW, .ref sD, .int (nI lt), .ref pG, .int 0, .int 0, .ref wO, .ref fO, .ref mO, .ref cO, .long 0, .ref th, .int 0, .int 0, .int 0, .int 0, .ref kK, .ref kL, .ref kC, .ref kW, .ref kD, .long 0])), (pG, .inl (cy 1, 26, .inl f))]) (va_runS (As := [.int cu, .int 32, .int 126]) (rest := []) ⟨hx, hb, hml, hown, hts⟩ (c_X5_within l D cy H.size cu 32 126 ) (va_cwS 3 hts gX5_letter_X5_within rfl rfl rfl (by decide +kernel) ⟨Nat.le_of_ble_eq_true rfl, Nat.le_of_ble_eq_true rfl⟩) (cpre_S (wc := []) hX hP hD hS hA [] (by decide +kernel) rfl) rfl rfl hl.1 rfl (lv_room (Nat.le_of_ble_eq_true rfl)) dX5_letter_5 ⟨Nat.le_of_ble_eq_true rfl, Nat.le_of_ble_eq_true rfl⟩) hP hD hS hA [] [0, 1] rfl rfl (by decide +kernel) (by decide +kernel) (fun ww u1 H locs hw hP hD hS => ?_)
  obtain ⟨hu, hww⟩ := hw
  subst hu
  have hP : va_P D vwCl [(m0, .inr (5, [.int 0, .int 0, .ref kO, .ref lO, .int 0, .int 0, .int 0, .ref sC, .ref sW, .ref sD, .int (nI lt), .ref pG, .int 0, .int 0, .ref wO, .ref fO, .ref mO, .ref cO, .long 0, .ref th, .int 0, .int 0, .int 0, .int 0, .ref kK, .ref kL, .ref kC, .ref kW, .ref kD, .long 0])), (pG, .inl (cy 1, 26, .inl f))] H := hP
  have hD : va_D A [(m0, .inr (5, [.int 0, .int 0, .ref kO, .ref lO, .int 0, .int 0, .int 0, .ref sC, .ref sW, .ref sD, .int (nI lt), .ref pG, .int 0, .int 0, .ref wO, .ref fO, .ref mO, .ref cO, .long 0, .ref th, .int 0, .int 0, .int 0, .int 0, .ref kK, .ref kL, .ref kC, .ref kW, .ref kD, .long 0])), (pG, .inl (cy 1, 26, .inl f))] := hD
  refine lv_if_ne (tgt := 14) hx hb dX5_letter_8 (by decide) (fun c_8 => ?_) (fun c_8 => ?_)
  · refine lv_aload_n hx hb dX5_letter_14 rfl (lv_at hl 0 rfl) ?_
    refine va_get (D := D) (ci := 5) (v := .int (nI lt)) (C := RX5) (T := TX5) (N := 30) hx hb hts hw_X5 hown hK hP 0 rfl rfl 10 (by decide) f_63 (fun _ h9 => h9) rfl dX5_letter_15 ?_
    refine lv_bipush (v := 26) hx hb dX5_letter_18 (by decide) ?_
    refine lv_icmp_ne (tgt := 26) hx hb dX5_letter_20 (by decide) (fun c_20 => ?_) (fun c_20 => ?_)
    · have hl6 : lt < 26 := by
        rcases Nat.lt_or_ge lt 26 with q | q
        · exact q
        · exact absurd (show nI lt = 26 by rw [show lt = 26 by omega]; rfl) c_20
      refine lv_aload_n hx hb dX5_letter_26 rfl (lv_at hl 0 rfl) ?_
      refine va_get (D := D) (ci := 5) (v := .ref pG) (C := RX5) (T := TX5) (N := 30) hx hb hts hw_X5 hown hK hP 0 rfl rfl 11 (by decide) f_25 (fun _ h9 => h9) rfl dX5_letter_27 ?_
      refine lv_aload_n hx hb dX5_letter_30 rfl (lv_at hl 0 rfl) ?_
      refine va_get (D := D) (ci := 5) (v := .int (nI lt)) (C := RX5) (T := TX5) (N := 30) hx hb hts hw_X5 hown hK hP 0 rfl rfl 10 (by decide) f_63 (fun _ h9 => h9) rfl dX5_letter_31 ?_
      refine lv_iload_n hx hb dX5_letter_34 rfl (lv_at hl 1 rfl) ?_
      refine lv_i2b (v := cu.toInt8.toInt32) hx hb dX5_letter_35 rfl ?_
      refine va_bast hx hb hK hP hD hS 1 1 rfl rfl (nI_in (by omega) (by decide)) dX5_letter_36 (fun H locs hP hD hS => ?_)
      rw [show (nI lt).toNatClampNeg = lt from nI_clamp (by omega)] at hP hD
      have hP : va_P D vwCl [(m0, .inr (5, [.int 0, .int 0, .ref kO, .ref lO, .int 0, .int 0, .int 0, .ref sC, .ref sW, .ref sD, .int (nI lt), .ref pG, .int 0, .int 0, .ref wO, .ref fO, .ref mO, .ref cO, .long 0, .ref th, .int 0, .int 0, .int 0, .int 0, .ref kK, .ref kL, .ref kC, .ref kW, .ref kD, .long 0])), (pG, .inl (cy 1, 26, .inl (upd f lt (vp_nar .byte cu.toInt8.toInt32))))] H := hP
      have hD : va_D A [(m0, .inr (5, [.int 0, .int 0, .ref kO, .ref lO, .int 0, .int 0, .int 0, .ref sC, .ref sW, .ref sD, .int (nI lt), .ref pG, .int 0, .int 0, .ref wO, .ref fO, .ref mO, .ref cO, .long 0, .ref th, .int 0, .int 0, .int 0, .int 0, .ref kK, .ref kL, .ref kC, .ref kW, .ref kD, .long 0])), (pG, .inl (cy 1, 26, .inl (upd f lt (vp_nar .byte cu.toInt8.toInt32))))] := hD
      refine lv_aload_n hx hb dX5_letter_37 rfl (lv_at hl 0 rfl) ?_
      refine lv_dup hx hb dX5_letter_38 rfl ?_
      refine va_get (D := D) (ci := 5) (v := .int (nI lt)) (C := RX5) (T := TX5) (N := 30) hx hb hts hw_X5 hown hK hP 0 rfl rfl 10 (by decide) f_63 (fun _ h9 => h9) rfl dX5_letter_39 ?_
      refine lv_iconst (v := 1) hx hb dX5_letter_42 (by decide) ?_
      refine lv_iadd hx hb dX5_letter_43 ?_
      refine lv_topi (fun y2 ey2 => ?_)
      obtain rfl : y2 = nI (lt + 1) := ey2.trans ((nI_succ lt).symm)
      refine va_put (D := D) (ci := 5) (v := .int (nI (lt + 1))) (ty := .int) (C := RX5) (T := TX5) (N := 30) hx hb hts hw_X5 tyX5 tyX5_ok nmX5 hown hK hP hD hS 0 rfl rfl 10 (by decide) f_63 (fun _ h9 => h9) rfl (by decide +kernel) rfl rfl (Nat.le_of_ble_eq_true rfl) dX5_letter_44 (fun H locs hP hD hS => ?_)
      have hP : va_P D vwCl [(m0, .inr (5, [.int 0, .int 0, .ref kO, .ref lO, .int 0, .int 0, .int 0, .ref sC, .ref sW, .ref sD, .int (nI (lt + 1)), .ref pG, .int 0, .int 0, .ref wO, .ref fO, .ref mO, .ref cO, .long 0, .ref th, .int 0, .int 0, .int 0, .int 0, .ref kK, .ref kL, .ref kC, .ref kW, .ref kD, .long 0])), (pG, .inl (cy 1, 26, .inl (upd f lt (vp_nar .byte cu.toInt8.toInt32))))] H := hP
      have hD : va_D A [(m0, .inr (5, [.int 0, .int 0, .ref kO, .ref lO, .int 0, .int 0, .int 0, .ref sC, .ref sW, .ref sD, .int (nI (lt + 1)), .ref pG, .int 0, .int 0, .ref wO, .ref fO, .ref mO, .ref cO, .long 0, .ref th, .int 0, .int 0, .int 0, .int 0, .ref kK, .ref kL, .ref kC, .ref kW, .ref kD, .long 0])), (pG, .inl (cy 1, 26, .inl (upd f lt (vp_nar .byte cu.toInt8.toInt32))))] := hD
      refine lv_aload_n hx hb dX5_letter_47 rfl (lv_at hl 0 rfl) ?_
      refine va_get (D := D) (ci := 5) (v := .int (nI (lt + 1))) (C := RX5) (T := TX5) (N := 30) hx hb hts hw_X5 hown hK hP 0 rfl rfl 10 (by decide) f_63 (fun _ h9 => h9) rfl dX5_letter_48 ?_
      have hP9 := hP.sub (ws' := [(m0, .inr (5, [.int 0, .int 0, .ref kO, .ref lO, .int 0, .int 0, .int 0, .ref sC, .ref sW, .ref sD, .int (nI (lt + 1)), .ref pG, .int 0, .int 0, .ref wO, .ref fO, .ref mO, .ref cO, .long 0, .ref th, .int 0, .int 0, .int 0, .int 0, .ref kK, .ref kL, .ref kC, .ref kW, .ref kD, .long 0])), (pG, .inl (cy 1, 26, .inl (upd f lt (vp_nar .byte cu.toInt8.toInt32))))]) [0, 1] rfl
      have hD9 := hD.sub (ws' := [(m0, .inr (5, [.int 0, .int 0, .ref kO, .ref lO, .int 0, .int 0, .int 0, .ref sC, .ref sW, .ref sD, .int (nI (lt + 1)), .ref pG, .int 0, .int 0, .ref wO, .ref fO, .ref mO, .ref cO, .long 0, .ref th, .int 0, .int 0, .int 0, .int 0, .ref kK, .ref kL, .ref kC, .ref kW, .ref kD, .long 0])), (pG, .inl (cy 1, 26, .inl (upd f lt (vp_nar .byte cu.toInt8.toInt32))))]) [0, 1] (by decide +kernel) rfl
      exact W.iret (v := nI (lt + 1)) hx hb hr (fun t9 ht9 hW9 => ⟨⟨nI (lt + 1), [(m0, .inr (5, [.int 0, .int 0, .ref kO, .ref lO, .int 0, .int 0, .int 0, .ref sC, .ref sW, .ref sD, .int (nI (lt + 1)), .ref pG, .int 0, .int 0, .ref wO, .ref fO, .ref mO, .ref cO, .long 0, .ref th, .int 0, .int 0, .int 0, .int 0, .ref kK, .ref kL, .ref kC, .ref kW, .ref kD, .long 0])), (pG, .inl (cy 1, 26, .inl (upd f lt (vp_nar .byte cu.toInt8.toInt32))))], rfl, ⟨(lt + 1), (upd f lt (vp_nar .byte cu.toInt8.toInt32)), rfl, (Or.inr (Or.inr ⟨wn1 hww c_8, hl6, rfl, rfl, rfl⟩))⟩, by rw [ht9]; exact hP9, hD9⟩, hS.F ht9⟩) hS.2.2 dX5_letter_51
    · have hl6 : lt = 26 := (nI_eq (a := lt) (b := 26) (by omega) (by decide)).mp c_20
      refine lv_bipush (v := (-104)) hx hb dX5_letter_23 (by decide) ?_
      have hP9 := hP.sub (ws' := [(m0, .inr (5, [.int 0, .int 0, .ref kO, .ref lO, .int 0, .int 0, .int 0, .ref sC, .ref sW, .ref sD, .int (nI lt), .ref pG, .int 0, .int 0, .ref wO, .ref fO, .ref mO, .ref cO, .long 0, .ref th, .int 0, .int 0, .int 0, .int 0, .ref kK, .ref kL, .ref kC, .ref kW, .ref kD, .long 0])), (pG, .inl (cy 1, 26, .inl f))]) [0, 1] rfl
      have hD9 := hD.sub (ws' := [(m0, .inr (5, [.int 0, .int 0, .ref kO, .ref lO, .int 0, .int 0, .int 0, .ref sC, .ref sW, .ref sD, .int (nI lt), .ref pG, .int 0, .int 0, .ref wO, .ref fO, .ref mO, .ref cO, .long 0, .ref th, .int 0, .int 0, .int 0, .int 0, .ref kK, .ref kL, .ref kC, .ref kW, .ref kD, .long 0])), (pG, .inl (cy 1, 26, .inl f))]) [0, 1] (by decide +kernel) rfl
      exact W.iret (v := (-104)) hx hb hr (fun t9 ht9 hW9 => ⟨⟨(-104), [(m0, .inr (5, [.int 0, .int 0, .ref kO, .ref lO, .int 0, .int 0, .int 0, .ref sC, .ref sW, .ref sD, .int (nI lt), .ref pG, .int 0, .int 0, .ref wO, .ref fO, .ref mO, .ref cO, .long 0, .ref th, .int 0, .int 0, .int 0, .int 0, .ref kK, .ref kL, .ref kC, .ref kW, .ref kD, .long 0])), (pG, .inl (cy 1, 26, .inl f))], rfl, ⟨lt, f, rfl, (Or.inr (Or.inl ⟨wn1 hww c_8, hl6, rfl, rfl, rfl⟩))⟩, by rw [ht9]; exact hP9, hD9⟩, hS.F ht9⟩) hS.2.2 dX5_letter_25
  · refine lv_bipush (v := (-102)) hx hb dX5_letter_11 (by decide) ?_
    have hP9 := hP.sub (ws' := [(m0, .inr (5, [.int 0, .int 0, .ref kO, .ref lO, .int 0, .int 0, .int 0, .ref sC, .ref sW, .ref sD, .int (nI lt), .ref pG, .int 0, .int 0, .ref wO, .ref fO, .ref mO, .ref cO, .long 0, .ref th, .int 0, .int 0, .int 0, .int 0, .ref kK, .ref kL, .ref kC, .ref kW, .ref kD, .long 0])), (pG, .inl (cy 1, 26, .inl f))]) [0, 1] rfl
    have hD9 := hD.sub (ws' := [(m0, .inr (5, [.int 0, .int 0, .ref kO, .ref lO, .int 0, .int 0, .int 0, .ref sC, .ref sW, .ref sD, .int (nI lt), .ref pG, .int 0, .int 0, .ref wO, .ref fO, .ref mO, .ref cO, .long 0, .ref th, .int 0, .int 0, .int 0, .int 0, .ref kK, .ref kL, .ref kC, .ref kW, .ref kD, .long 0])), (pG, .inl (cy 1, 26, .inl f))]) [0, 1] (by decide +kernel) rfl
    exact W.iret (v := (-102)) hx hb hr (fun t9 ht9 hW9 => ⟨⟨(-102), [(m0, .inr (5, [.int 0, .int 0, .ref kO, .ref lO, .int 0, .int 0, .int 0, .ref sC, .ref sW, .ref sD, .int (nI lt), .ref pG, .int 0, .int 0, .ref wO, .ref fO, .ref mO, .ref cO, .long 0, .ref th, .int 0, .int 0, .int 0, .int 0, .ref kK, .ref kL, .ref kC, .ref kW, .ref kD, .long 0])), (pG, .inl (cy 1, 26, .inl f))], rfl, ⟨lt, f, rfl, (Or.inl ⟨wn0 hww c_8, rfl, rfl, rfl⟩)⟩, by rw [ht9]; exact hP9, hD9⟩, hS.F ht9⟩) hS.2.2 dX5_letter_13
def q_X5_blank (cy : Nat → ClassId) (m0 : Nat) (kO : Nat) (lO : Nat) (sC : Nat) (sW : Nat) (sD : Nat) (pG : Nat) (wO : Nat) (fO : Nat) (mO : Nat) (cO : Nat) (th : Nat) (kK : Nat) (kL : Nat) (kC : Nat) (kW : Nat) (kD : Nat) (pl : Int32) : Int32 → va_W → Prop := fun (r : Int32) (u : va_W) => u = [(m0, .inr (5, [.int 0, .int 0, .ref kO, .ref lO, .int 0, .int 0, .int 0, .ref sC, .ref sW, .ref sD, .int 0, .ref pG, .int 0, .int 0, .ref wO, .ref fO, .ref mO, .ref cO, .long 0, .ref th, .int 0, .int 0, .int 0, .int 0, .ref kK, .ref kL, .ref kC, .ref kW, .ref kD, .long 0]))] ∧ r = pl
set_option maxHeartbeats 4000000 in
set_option maxRecDepth 100000 in
theorem c_X5_blank (l : Launch) (D : va_G) (cy : Nat → ClassId) (zz : Nat) (m0 : Nat) (kO : Nat) (lO : Nat) (sC : Nat) (sW : Nat) (sD : Nat) (pG : Nat) (wO : Nat) (fO : Nat) (mO : Nat) (cO : Nat) (th : Nat) (kK : Nat) (kL : Nat) (kC : Nat) (kW : Nat) (kD : Nat) (pl : Int32) : Met l yX5_blank wsX5_blank ({ frames := 0, cells := 0, slots := 0, locals := 0 } : Room) (va_Pc [.ref m0] (cpre D cy [(m0, .inr (5, [.int 0, .int 0, .ref kO, .ref lO, .int 0, .int 0, .int 0, .ref sC, .ref sW, .ref sD, .int pl, .ref pG, .int 0, .int 0, .ref wO, .ref fO, .ref mO, .ref cO, .long 0, .ref th, .int 0, .int 0, .int 0, .int 0, .ref kK, .ref kL, .ref kC, .ref kW, .ref kD, .long 0]))] zz)) (va_Qi (q_X5_blank cy m0 kO lO sC sW sD pG wO fO mO cO th kK kL kC kW kD pl) (cpost D (va_A [(m0, .inr (5, [.int 0, .int 0, .ref kO, .ref lO, .int 0, .int 0, .int 0, .ref sC, .ref sW, .ref sD, .int pl, .ref pG, .int 0, .int 0, .ref wO, .ref fO, .ref mO, .ref cO, .long 0, .ref th, .int 0, .int 0, .int 0, .int 0, .ref kK, .ref kL, .ref kC, .ref kW, .ref kD, .long 0]))] zz)) (va_A [(m0, .inr (5, [.int 0, .int 0, .ref kO, .ref lO, .int 0, .int 0, .int 0, .ref sC, .ref sW, .ref sD, .int pl, .ref pG, .int 0, .int 0, .ref wO, .ref fO, .ref mO, .ref cO, .long 0, .ref th, .int 0, .int 0, .int 0, .int 0, .ref kK, .ref kL, .ref kC, .ref kW, .ref kD, .long 0]))] zz)) 0 0 (va_A [(m0, .inr (5, [.int 0, .int 0, .ref kO, .ref lO, .int 0, .int 0, .int 0, .ref sC, .ref sW, .ref sD, .int pl, .ref pG, .int 0, .int 0, .ref wO, .ref fO, .ref mO, .ref cO, .long 0, .ref th, .int 0, .int 0, .int 0, .int 0, .ref kK, .ref kL, .ref kC, .ref kW, .ref kD, .long 0]))] zz) := by
  refine Met.ofW (cc := cX5_blank) (maxL := 2) (ret := (some .int)) (by decide) rfl ?_
  intro p e s m args below meth c s₁ B hml hv
  obtain ⟨rfl, hsz, hP, hD0, hX⟩ := hv
  have hx := B.exec
  have hb := B.bytes
  have hr := B.returns
  have hts := atoms_spec (ws := wsX5_blank) B.pre
  have hown : s.vm.findClass RX5 = some m.cls := findClass_of_methodNamed B.named
  have hlocks := B.notSynchronized
  subst hsz
  have hD := hD0.self (sz := s.heap.size)
  generalize hAe : va_A [(m0, .inr (5, [.int 0, .int 0, .ref kO, .ref lO, .int 0, .int 0, .int 0, .ref sC, .ref sW, .ref sD, .int pl, .ref pG, .int 0, .int 0, .ref wO, .ref fO, .ref mO, .ref cO, .long 0, .ref th, .int 0, .int 0, .int 0, .int 0, .ref kK, .ref kL, .ref kC, .ref kW, .ref kD, .long 0]))] s.heap.size = A at hD hX ⊢
  have hA : ∀ q : Nat, s.heap.size ≤ q → A q := fun q h => by rw [← hAe]; exact Or.inr h
  obtain ⟨H, hH⟩ : ∃ H : Heap, H = s.heap := ⟨_, rfl⟩
  have hS : va_S A s.heap H [] := hH ▸ va_S.rf
  have hK := hX.1
  have hP : va_P D vwCl [(m0, .inr (5, [.int 0, .int 0, .ref kO, .ref lO, .int 0, .int 0, .int 0, .ref sC, .ref sW, .ref sD, .int pl, .ref pG, .int 0, .int 0, .ref wO, .ref fO, .ref mO, .ref cO, .long 0, .ref th, .int 0, .int 0, .int 0, .int 0, .ref kK, .ref kL, .ref kC, .ref kW, .ref kD, .long 0]))] H := hH ▸ hP
  rw [← hH]
  have hw_X5 : ∀ w ∈ wsX50, w ∈ wsX5_blank := by decide +kernel
  have f_63 := hts (.fieldLink RX5 63 "CubeTowerModel" "pageLength" "I") (by decide +kernel)
  have hl := lv_entry ([.ref m0]) (n := 2) (Nat.le_of_ble_eq_true rfl)
  rw [lg_entry_eq]
  generalize (lg_sl ([.ref m0]) ++ List.replicate (2 - (lg_sl ([.ref m0])).length) Slot.unset).toArray = ls at hl ⊢
  have hl : lv_has ls 2 [(0, .ref m0)] := hl
  refine lv_aload_n hx hb dX5_blank_0 rfl (lv_at hl 0 rfl) ?_
  refine va_get (D := D) (ci := 5) (v := .int pl) (C := RX5) (T := TX5) (N := 30) hx hb hts hw_X5 hown hK hP 0 rfl rfl 10 (by decide) f_63 (fun _ h9 => h9) rfl dX5_blank_1 ?_
  refine lv_istore_n (lv' := [(1, .int pl), (0, .ref m0)]) hx hb dX5_blank_4 rfl hl (by decide) rfl (fun ls hl => ?_)
  refine lv_aload_n hx hb dX5_blank_5 rfl (lv_at hl 1 rfl) ?_
  refine lv_iconst (v := 0) hx hb dX5_blank_6 (by decide) ?_
  refine va_put (D := D) (ci := 5) (v := .int 0) (ty := .int) (C := RX5) (T := TX5) (N := 30) hx hb hts hw_X5 tyX5 tyX5_ok nmX5 hown hK hP hD hS 0 rfl rfl 10 (by decide) f_63 (fun _ h9 => h9) rfl (by decide +kernel) rfl rfl (Nat.le_of_ble_eq_true rfl) dX5_blank_7 (fun H locs hP hD hS => ?_)
  have hP : va_P D vwCl [(m0, .inr (5, [.int 0, .int 0, .ref kO, .ref lO, .int 0, .int 0, .int 0, .ref sC, .ref sW, .ref sD, .int 0, .ref pG, .int 0, .int 0, .ref wO, .ref fO, .ref mO, .ref cO, .long 0, .ref th, .int 0, .int 0, .int 0, .int 0, .ref kK, .ref kL, .ref kC, .ref kW, .ref kD, .long 0]))] H := hP
  have hD : va_D A [(m0, .inr (5, [.int 0, .int 0, .ref kO, .ref lO, .int 0, .int 0, .int 0, .ref sC, .ref sW, .ref sD, .int 0, .ref pG, .int 0, .int 0, .ref wO, .ref fO, .ref mO, .ref cO, .long 0, .ref th, .int 0, .int 0, .int 0, .int 0, .ref kK, .ref kL, .ref kC, .ref kW, .ref kD, .long 0]))] := hD
  refine lv_iload_n hx hb dX5_blank_10 rfl (lv_at hl 0 rfl) ?_
  have hP9 := hP.sub (ws' := [(m0, .inr (5, [.int 0, .int 0, .ref kO, .ref lO, .int 0, .int 0, .int 0, .ref sC, .ref sW, .ref sD, .int 0, .ref pG, .int 0, .int 0, .ref wO, .ref fO, .ref mO, .ref cO, .long 0, .ref th, .int 0, .int 0, .int 0, .int 0, .ref kK, .ref kL, .ref kC, .ref kW, .ref kD, .long 0]))]) [0] rfl
  have hD9 := hD.sub (ws' := [(m0, .inr (5, [.int 0, .int 0, .ref kO, .ref lO, .int 0, .int 0, .int 0, .ref sC, .ref sW, .ref sD, .int 0, .ref pG, .int 0, .int 0, .ref wO, .ref fO, .ref mO, .ref cO, .long 0, .ref th, .int 0, .int 0, .int 0, .int 0, .ref kK, .ref kL, .ref kC, .ref kW, .ref kD, .long 0]))]) [0] (by decide +kernel) rfl
  exact W.iret (v := pl) hx hb hr (fun t9 ht9 hW9 => ⟨⟨pl, [(m0, .inr (5, [.int 0, .int 0, .ref kO, .ref lO, .int 0, .int 0, .int 0, .ref sC, .ref sW, .ref sD, .int 0, .ref pG, .int 0, .int 0, .ref wO, .ref fO, .ref mO, .ref cO, .long 0, .ref th, .int 0, .int 0, .int 0, .int 0, .ref kK, .ref kL, .ref kC, .ref kW, .ref kD, .long 0]))], rfl, ⟨rfl, rfl⟩, by rw [ht9]; exact hP9, hD9⟩, hS.F ht9⟩) hS.2.2 dX5_blank_11
def q_X5_forget (cy : Nat → ClassId) (m0 : Nat) (kO : Nat) (lO : Nat) (sC : Nat) (sW : Nat) (sD : Nat) (pG : Nat) (wO : Nat) (fO : Nat) (mO : Nat) (cO : Nat) (th : Nat) (kK : Nat) (kL : Nat) (kC : Nat) (kW : Nat) (kD : Nat) : Int32 → va_W → Prop := fun (r : Int32) (u : va_W) => u = [(m0, .inr (5, [.int 0, .int 0, .ref kO, .ref lO, .int 0, .int 0, .int 0, .ref sC, .ref sW, .ref sD, .int 0, .ref pG, .int 0, .int 0, .ref wO, .ref fO, .ref mO, .ref cO, .long 0, .ref th, .int 0, .int 0, .int 0, .int 0, .ref kK, .ref kL, .ref kC, .ref kW, .ref kD, .long 0]))] ∧ r = 0
set_option maxHeartbeats 4000000 in
set_option maxRecDepth 100000 in
theorem c_X5_forget (l : Launch) (D : va_G) (cy : Nat → ClassId) (zz : Nat) (m0 : Nat) (kO : Nat) (lO : Nat) (sC : Nat) (sW : Nat) (sD : Nat) (pG : Nat) (wO : Nat) (fO : Nat) (mO : Nat) (cO : Nat) (th : Nat) (kK : Nat) (kL : Nat) (kC : Nat) (kW : Nat) (kD : Nat) : Met l yX5_forget wsX5_forget ({ frames := 0, cells := 0, slots := 0, locals := 0 } : Room) (va_Pc [.ref m0] (cpre D cy [(m0, .inr (5, [.int 0, .int 0, .ref kO, .ref lO, .int 0, .int 0, .int 0, .ref sC, .ref sW, .ref sD, .int 0, .ref pG, .int 0, .int 0, .ref wO, .ref fO, .ref mO, .ref cO, .long 0, .ref th, .int 0, .int 0, .int 0, .int 0, .ref kK, .ref kL, .ref kC, .ref kW, .ref kD, .long 0]))] zz)) (va_Qi (q_X5_forget cy m0 kO lO sC sW sD pG wO fO mO cO th kK kL kC kW kD) (cpost D (va_A [(m0, .inr (5, [.int 0, .int 0, .ref kO, .ref lO, .int 0, .int 0, .int 0, .ref sC, .ref sW, .ref sD, .int 0, .ref pG, .int 0, .int 0, .ref wO, .ref fO, .ref mO, .ref cO, .long 0, .ref th, .int 0, .int 0, .int 0, .int 0, .ref kK, .ref kL, .ref kC, .ref kW, .ref kD, .long 0]))] zz)) (va_A [(m0, .inr (5, [.int 0, .int 0, .ref kO, .ref lO, .int 0, .int 0, .int 0, .ref sC, .ref sW, .ref sD, .int 0, .ref pG, .int 0, .int 0, .ref wO, .ref fO, .ref mO, .ref cO, .long 0, .ref th, .int 0, .int 0, .int 0, .int 0, .ref kK, .ref kL, .ref kC, .ref kW, .ref kD, .long 0]))] zz)) 0 0 (va_A [(m0, .inr (5, [.int 0, .int 0, .ref kO, .ref lO, .int 0, .int 0, .int 0, .ref sC, .ref sW, .ref sD, .int 0, .ref pG, .int 0, .int 0, .ref wO, .ref fO, .ref mO, .ref cO, .long 0, .ref th, .int 0, .int 0, .int 0, .int 0, .ref kK, .ref kL, .ref kC, .ref kW, .ref kD, .long 0]))] zz) := by
  refine Met.ofW (cc := cX5_forget) (maxL := 2) (ret := (some .int)) (by decide) rfl ?_
  intro p e s m args below meth c s₁ B hml hv
  obtain ⟨rfl, hsz, hP, hD0, hX⟩ := hv
  have hx := B.exec
  have hb := B.bytes
  have hr := B.returns
  have hts := atoms_spec (ws := wsX5_forget) B.pre
  have hown : s.vm.findClass RX5 = some m.cls := findClass_of_methodNamed B.named
  have hlocks := B.notSynchronized
  subst hsz
  have hD := hD0.self (sz := s.heap.size)
  generalize hAe : va_A [(m0, .inr (5, [.int 0, .int 0, .ref kO, .ref lO, .int 0, .int 0, .int 0, .ref sC, .ref sW, .ref sD, .int 0, .ref pG, .int 0, .int 0, .ref wO, .ref fO, .ref mO, .ref cO, .long 0, .ref th, .int 0, .int 0, .int 0, .int 0, .ref kK, .ref kL, .ref kC, .ref kW, .ref kD, .long 0]))] s.heap.size = A at hD hX ⊢
  have hA : ∀ q : Nat, s.heap.size ≤ q → A q := fun q h => by rw [← hAe]; exact Or.inr h
  obtain ⟨H, hH⟩ : ∃ H : Heap, H = s.heap := ⟨_, rfl⟩
  have hS : va_S A s.heap H [] := hH ▸ va_S.rf
  have hK := hX.1
  have hP : va_P D vwCl [(m0, .inr (5, [.int 0, .int 0, .ref kO, .ref lO, .int 0, .int 0, .int 0, .ref sC, .ref sW, .ref sD, .int 0, .ref pG, .int 0, .int 0, .ref wO, .ref fO, .ref mO, .ref cO, .long 0, .ref th, .int 0, .int 0, .int 0, .int 0, .ref kK, .ref kL, .ref kC, .ref kW, .ref kD, .long 0]))] H := hH ▸ hP
  rw [← hH]
  have hw_X5 : ∀ w ∈ wsX50, w ∈ wsX5_forget := by decide +kernel
  have f_97 := hts (.fieldLink RX5 97 "CubeTowerModel" "seen" "I") (by decide +kernel)
  have hl := lv_entry ([.ref m0]) (n := 2) (Nat.le_of_ble_eq_true rfl)
  rw [lg_entry_eq]
  generalize (lg_sl ([.ref m0]) ++ List.replicate (2 - (lg_sl ([.ref m0])).length) Slot.unset).toArray = ls at hl ⊢
  have hl : lv_has ls 2 [(0, .ref m0)] := hl
  refine lv_aload_n hx hb dX5_forget_0 rfl (lv_at hl 0 rfl) ?_
  refine va_get (D := D) (ci := 5) (v := .int 0) (C := RX5) (T := TX5) (N := 30) hx hb hts hw_X5 hown hK hP 0 rfl rfl 6 (by decide) f_97 (fun _ h9 => h9) rfl dX5_forget_1 ?_
  refine lv_istore_n (lv' := [(1, .int 0), (0, .ref m0)]) hx hb dX5_forget_4 rfl hl (by decide) rfl (fun ls hl => ?_)
  refine lv_aload_n hx hb dX5_forget_5 rfl (lv_at hl 1 rfl) ?_
  refine lv_iconst (v := 0) hx hb dX5_forget_6 (by decide) ?_
  refine va_put (D := D) (ci := 5) (v := .int 0) (ty := .int) (C := RX5) (T := TX5) (N := 30) hx hb hts hw_X5 tyX5 tyX5_ok nmX5 hown hK hP hD hS 0 rfl rfl 6 (by decide) f_97 (fun _ h9 => h9) rfl (by decide +kernel) rfl rfl (Nat.le_of_ble_eq_true rfl) dX5_forget_7 (fun H locs hP hD hS => ?_)
  have hP : va_P D vwCl [(m0, .inr (5, [.int 0, .int 0, .ref kO, .ref lO, .int 0, .int 0, .int 0, .ref sC, .ref sW, .ref sD, .int 0, .ref pG, .int 0, .int 0, .ref wO, .ref fO, .ref mO, .ref cO, .long 0, .ref th, .int 0, .int 0, .int 0, .int 0, .ref kK, .ref kL, .ref kC, .ref kW, .ref kD, .long 0]))] H := hP
  have hD : va_D A [(m0, .inr (5, [.int 0, .int 0, .ref kO, .ref lO, .int 0, .int 0, .int 0, .ref sC, .ref sW, .ref sD, .int 0, .ref pG, .int 0, .int 0, .ref wO, .ref fO, .ref mO, .ref cO, .long 0, .ref th, .int 0, .int 0, .int 0, .int 0, .ref kK, .ref kL, .ref kC, .ref kW, .ref kD, .long 0]))] := hD
  refine lv_iload_n hx hb dX5_forget_10 rfl (lv_at hl 0 rfl) ?_
  have hP9 := hP.sub (ws' := [(m0, .inr (5, [.int 0, .int 0, .ref kO, .ref lO, .int 0, .int 0, .int 0, .ref sC, .ref sW, .ref sD, .int 0, .ref pG, .int 0, .int 0, .ref wO, .ref fO, .ref mO, .ref cO, .long 0, .ref th, .int 0, .int 0, .int 0, .int 0, .ref kK, .ref kL, .ref kC, .ref kW, .ref kD, .long 0]))]) [0] rfl
  have hD9 := hD.sub (ws' := [(m0, .inr (5, [.int 0, .int 0, .ref kO, .ref lO, .int 0, .int 0, .int 0, .ref sC, .ref sW, .ref sD, .int 0, .ref pG, .int 0, .int 0, .ref wO, .ref fO, .ref mO, .ref cO, .long 0, .ref th, .int 0, .int 0, .int 0, .int 0, .ref kK, .ref kL, .ref kC, .ref kW, .ref kD, .long 0]))]) [0] (by decide +kernel) rfl
  exact W.iret (v := 0) hx hb hr (fun t9 ht9 hW9 => ⟨⟨0, [(m0, .inr (5, [.int 0, .int 0, .ref kO, .ref lO, .int 0, .int 0, .int 0, .ref sC, .ref sW, .ref sD, .int 0, .ref pG, .int 0, .int 0, .ref wO, .ref fO, .ref mO, .ref cO, .long 0, .ref th, .int 0, .int 0, .int 0, .int 0, .ref kK, .ref kL, .ref kC, .ref kW, .ref kD, .long 0]))], rfl, ⟨rfl, rfl⟩, by rw [ht9]; exact hP9, hD9⟩, hS.F ht9⟩) hS.2.2 dX5_forget_11
def q_X5_at (cy : Nat → ClassId) (m0 : Nat) (kO : Nat) (lO : Nat) (sC : Nat) (sW : Nat) (sD : Nat) (pG : Nat) (wO : Nat) (fO : Nat) (mO : Nat) (cO : Nat) (th : Nat) (kK : Nat) (kL : Nat) (kC : Nat) (kW : Nat) (kD : Nat) : Int32 → va_W → Prop := fun (r : Int32) (u : va_W) => u = [(m0, .inr (5, [.int 0, .int 0, .ref kO, .ref lO, .int 0, .int 0, .int 0, .ref sC, .ref sW, .ref sD, .int 0, .ref pG, .int 0, .int 0, .ref wO, .ref fO, .ref mO, .ref cO, .long 0, .ref th, .int 0, .int 0, .int 0, .int 0, .ref kK, .ref kL, .ref kC, .ref kW, .ref kD, .long 0]))] ∧ r = 0
set_option maxHeartbeats 4000000 in
set_option maxRecDepth 100000 in
theorem c_X5_at (l : Launch) (D : va_G) (cy : Nat → ClassId) (zz : Nat) (m0 : Nat) (kO : Nat) (lO : Nat) (sC : Nat) (sW : Nat) (sD : Nat) (pG : Nat) (wO : Nat) (fO : Nat) (mO : Nat) (cO : Nat) (th : Nat) (kK : Nat) (kL : Nat) (kC : Nat) (kW : Nat) (kD : Nat) : Met l yX5_at wsX5_at ({ frames := 0, cells := 0, slots := 0, locals := 0 } : Room) (va_Pc [.ref m0, .int 0] (cpre D cy [(m0, .inr (5, [.int 0, .int 0, .ref kO, .ref lO, .int 0, .int 0, .int 0, .ref sC, .ref sW, .ref sD, .int 0, .ref pG, .int 0, .int 0, .ref wO, .ref fO, .ref mO, .ref cO, .long 0, .ref th, .int 0, .int 0, .int 0, .int 0, .ref kK, .ref kL, .ref kC, .ref kW, .ref kD, .long 0]))] zz)) (va_Qi (q_X5_at cy m0 kO lO sC sW sD pG wO fO mO cO th kK kL kC kW kD) (cpost D (va_A [(m0, .inr (5, [.int 0, .int 0, .ref kO, .ref lO, .int 0, .int 0, .int 0, .ref sC, .ref sW, .ref sD, .int 0, .ref pG, .int 0, .int 0, .ref wO, .ref fO, .ref mO, .ref cO, .long 0, .ref th, .int 0, .int 0, .int 0, .int 0, .ref kK, .ref kL, .ref kC, .ref kW, .ref kD, .long 0]))] zz)) (va_A [(m0, .inr (5, [.int 0, .int 0, .ref kO, .ref lO, .int 0, .int 0, .int 0, .ref sC, .ref sW, .ref sD, .int 0, .ref pG, .int 0, .int 0, .ref wO, .ref fO, .ref mO, .ref cO, .long 0, .ref th, .int 0, .int 0, .int 0, .int 0, .ref kK, .ref kL, .ref kC, .ref kW, .ref kD, .long 0]))] zz)) 0 0 (va_A [(m0, .inr (5, [.int 0, .int 0, .ref kO, .ref lO, .int 0, .int 0, .int 0, .ref sC, .ref sW, .ref sD, .int 0, .ref pG, .int 0, .int 0, .ref wO, .ref fO, .ref mO, .ref cO, .long 0, .ref th, .int 0, .int 0, .int 0, .int 0, .ref kK, .ref kL, .ref kC, .ref kW, .ref kD, .long 0]))] zz) := by
  refine Met.ofW (cc := cX5_at) (maxL := 2) (ret := (some .int)) (by decide) rfl ?_
  intro p e s m args below meth c s₁ B hml hv
  obtain ⟨rfl, hsz, hP, hD0, hX⟩ := hv
  have hx := B.exec
  have hb := B.bytes
  have hr := B.returns
  have hts := atoms_spec (ws := wsX5_at) B.pre
  have hown : s.vm.findClass RX5 = some m.cls := findClass_of_methodNamed B.named
  have hlocks := B.notSynchronized
  subst hsz
  have hD := hD0.self (sz := s.heap.size)
  generalize hAe : va_A [(m0, .inr (5, [.int 0, .int 0, .ref kO, .ref lO, .int 0, .int 0, .int 0, .ref sC, .ref sW, .ref sD, .int 0, .ref pG, .int 0, .int 0, .ref wO, .ref fO, .ref mO, .ref cO, .long 0, .ref th, .int 0, .int 0, .int 0, .int 0, .ref kK, .ref kL, .ref kC, .ref kW, .ref kD, .long 0]))] s.heap.size = A at hD hX ⊢
  have hA : ∀ q : Nat, s.heap.size ≤ q → A q := fun q h => by rw [← hAe]; exact Or.inr h
  obtain ⟨H, hH⟩ : ∃ H : Heap, H = s.heap := ⟨_, rfl⟩
  have hS : va_S A s.heap H [] := hH ▸ va_S.rf
  have hK := hX.1
  have hP : va_P D vwCl [(m0, .inr (5, [.int 0, .int 0, .ref kO, .ref lO, .int 0, .int 0, .int 0, .ref sC, .ref sW, .ref sD, .int 0, .ref pG, .int 0, .int 0, .ref wO, .ref fO, .ref mO, .ref cO, .long 0, .ref th, .int 0, .int 0, .int 0, .int 0, .ref kK, .ref kL, .ref kC, .ref kW, .ref kD, .long 0]))] H := hH ▸ hP
  rw [← hH]
  have hw_X5 : ∀ w ∈ wsX50, w ∈ wsX5_at := by decide +kernel
  have f_63 := hts (.fieldLink RX5 63 "CubeTowerModel" "pageLength" "I") (by decide +kernel)
  have hl := lv_entry ([.ref m0, .int 0]) (n := 2) (Nat.le_of_ble_eq_true rfl)
  rw [lg_entry_eq]
  generalize (lg_sl ([.ref m0, .int 0]) ++ List.replicate (2 - (lg_sl ([.ref m0, .int 0])).length) Slot.unset).toArray = ls at hl ⊢
  have hl : lv_has ls 2 [(0, .ref m0), (1, .int 0)] := hl
  refine lv_iload_n hx hb dX5_at_0 rfl (lv_at hl 1 rfl) ?_
  refine lv_aload_n hx hb dX5_at_1 rfl (lv_at hl 0 rfl) ?_
  refine va_get (D := D) (ci := 5) (v := .int 0) (C := RX5) (T := TX5) (N := 30) hx hb hts hw_X5 hown hK hP 0 rfl rfl 10 (by decide) f_63 (fun _ h9 => h9) rfl dX5_at_2 ?_
  refine lv_icmp_ge (tgt := 17) hx hb dX5_at_5 (by decide) (fun c_5 => ?_) (fun c_5 => ?_)
  · refine lv_iconst (v := 0) hx hb dX5_at_17 (by decide) ?_
    have hP9 := hP.sub (ws' := [(m0, .inr (5, [.int 0, .int 0, .ref kO, .ref lO, .int 0, .int 0, .int 0, .ref sC, .ref sW, .ref sD, .int 0, .ref pG, .int 0, .int 0, .ref wO, .ref fO, .ref mO, .ref cO, .long 0, .ref th, .int 0, .int 0, .int 0, .int 0, .ref kK, .ref kL, .ref kC, .ref kW, .ref kD, .long 0]))]) [0] rfl
    have hD9 := hD.sub (ws' := [(m0, .inr (5, [.int 0, .int 0, .ref kO, .ref lO, .int 0, .int 0, .int 0, .ref sC, .ref sW, .ref sD, .int 0, .ref pG, .int 0, .int 0, .ref wO, .ref fO, .ref mO, .ref cO, .long 0, .ref th, .int 0, .int 0, .int 0, .int 0, .ref kK, .ref kL, .ref kC, .ref kW, .ref kD, .long 0]))]) [0] (by decide +kernel) rfl
    exact W.iret (v := 0) hx hb hr (fun t9 ht9 hW9 => ⟨⟨0, [(m0, .inr (5, [.int 0, .int 0, .ref kO, .ref lO, .int 0, .int 0, .int 0, .ref sC, .ref sW, .ref sD, .int 0, .ref pG, .int 0, .int 0, .ref wO, .ref fO, .ref mO, .ref cO, .long 0, .ref th, .int 0, .int 0, .int 0, .int 0, .ref kK, .ref kL, .ref kC, .ref kW, .ref kD, .long 0]))], rfl, ⟨rfl, rfl⟩, by rw [ht9]; exact hP9, hD9⟩, hS.F ht9⟩) hS.2.2 dX5_at_18
  · exact absurd c_5 (by decide)
def q_X5_kindBy (cy : Nat → ClassId) : Int32 → va_W → Prop := fun (r : Int32) (u : va_W) => u = [] ∧ r = -1
set_option maxHeartbeats 4000000 in
set_option maxRecDepth 100000 in
theorem c_X5_kindBy (l : Launch) (D : va_G) (cy : Nat → ClassId) (zz : Nat) : Met l yX5_kindBy wsX5_kindBy ({ frames := 0, cells := 0, slots := 0, locals := 0 } : Room) (va_Pc [.int 0] (cpre D cy [] zz)) (va_Qi (q_X5_kindBy cy ) (cpost D (va_A [] zz)) (va_A [] zz)) 0 0 (va_A [] zz) := by
  refine Met.ofW (cc := cX5_kindBy) (maxL := 1) (ret := (some .int)) (by decide) rfl ?_
  intro p e s m args below meth c s₁ B hml hv
  obtain ⟨rfl, hsz, hP, hD0, hX⟩ := hv
  have hx := B.exec
  have hb := B.bytes
  have hr := B.returns
  have hts := atoms_spec (ws := wsX5_kindBy) B.pre
  have hown : s.vm.findClass RX5 = some m.cls := findClass_of_methodNamed B.named
  have hlocks := B.notSynchronized
  subst hsz
  have hD := hD0.self (sz := s.heap.size)
  generalize hAe : va_A [] s.heap.size = A at hD hX ⊢
  have hA : ∀ q : Nat, s.heap.size ≤ q → A q := fun q h => by rw [← hAe]; exact Or.inr h
  obtain ⟨H, hH⟩ : ∃ H : Heap, H = s.heap := ⟨_, rfl⟩
  have hS : va_S A s.heap H [] := hH ▸ va_S.rf
  have hK := hX.1
  have hP : va_P D vwCl [] H := hH ▸ hP
  rw [← hH]
  have hl := lv_entry ([.int 0]) (n := 1) (Nat.le_of_ble_eq_true rfl)
  rw [lg_entry_eq]
  generalize (lg_sl ([.int 0]) ++ List.replicate (1 - (lg_sl ([.int 0])).length) Slot.unset).toArray = ls at hl ⊢
  have hl : lv_has ls 1 [(0, .int 0)] := hl
  refine lv_iload_n hx hb dX5_kindBy_0 rfl (lv_at hl 0 rfl) ?_
  refine lv_lookup (off := 61) (tgt := 62) hx hb dX5_kindBy_1 (by decide) (by decide) (by decide) ?_
  refine lv_iconst (v := (-1)) hx hb dX5_kindBy_62 (by decide) ?_
  have hP9 := hP.sub (ws' := []) [] rfl
  have hD9 := hD.sub (ws' := []) [] (by decide +kernel) rfl
  exact W.iret (v := (-1)) hx hb hr (fun t9 ht9 hW9 => ⟨⟨(-1), [], rfl, ⟨rfl, rfl⟩, by rw [ht9]; exact hP9, hD9⟩, hS.F ht9⟩) hS.2.2 dX5_kindBy_63
def q_X5_readCube (cy : Nat → ClassId) (m0 : Nat) (kO : Nat) (lO : Nat) (sC : Nat) (sW : Nat) (sD : Nat) (pG : Nat) (wO : Nat) (fO : Nat) (mO : Nat) (cO : Nat) (th : Nat) (kK : Nat) (kL : Nat) (kC : Nat) (kW : Nat) (kD : Nat) : Int32 → va_W → Prop := fun (r : Int32) (u : va_W) => u = [(m0, .inr (5, [.int 0, .int 0, .ref kO, .ref lO, .int 0, .int 0, .int 0, .ref sC, .ref sW, .ref sD, .int 0, .ref pG, .int 0, .int 0, .ref wO, .ref fO, .ref mO, .ref cO, .long 0, .ref th, .int 0, .int 0, .int 0, .int 0, .ref kK, .ref kL, .ref kC, .ref kW, .ref kD, .long 0]))] ∧ r = 0
set_option maxHeartbeats 4000000 in
set_option maxRecDepth 100000 in
theorem c_X5_readCube (l : Launch) (D : va_G) (cy : Nat → ClassId) (zz : Nat) (m0 : Nat) (kO : Nat) (lO : Nat) (sC : Nat) (sW : Nat) (sD : Nat) (pG : Nat) (wO : Nat) (fO : Nat) (mO : Nat) (cO : Nat) (th : Nat) (kK : Nat) (kL : Nat) (kC : Nat) (kW : Nat) (kD : Nat) : Met l yX5_readCube wsX5_readCube ({ frames := 1, cells := 0, slots := 0, locals := 21 } : Room) (va_Pc [.ref m0, .int 0] (cpre D cy [(m0, .inr (5, [.int 0, .int 0, .ref kO, .ref lO, .int 0, .int 0, .int 0, .ref sC, .ref sW, .ref sD, .int 0, .ref pG, .int 0, .int 0, .ref wO, .ref fO, .ref mO, .ref cO, .long 0, .ref th, .int 0, .int 0, .int 0, .int 0, .ref kK, .ref kL, .ref kC, .ref kW, .ref kD, .long 0]))] zz)) (va_Qi (q_X5_readCube cy m0 kO lO sC sW sD pG wO fO mO cO th kK kL kC kW kD) (cpost D (va_A [(m0, .inr (5, [.int 0, .int 0, .ref kO, .ref lO, .int 0, .int 0, .int 0, .ref sC, .ref sW, .ref sD, .int 0, .ref pG, .int 0, .int 0, .ref wO, .ref fO, .ref mO, .ref cO, .long 0, .ref th, .int 0, .int 0, .int 0, .int 0, .ref kK, .ref kL, .ref kC, .ref kW, .ref kD, .long 0]))] zz)) (va_A [(m0, .inr (5, [.int 0, .int 0, .ref kO, .ref lO, .int 0, .int 0, .int 0, .ref sC, .ref sW, .ref sD, .int 0, .ref pG, .int 0, .int 0, .ref wO, .ref fO, .ref mO, .ref cO, .long 0, .ref th, .int 0, .int 0, .int 0, .int 0, .ref kK, .ref kL, .ref kC, .ref kW, .ref kD, .long 0]))] zz)) 0 0 (va_A [(m0, .inr (5, [.int 0, .int 0, .ref kO, .ref lO, .int 0, .int 0, .int 0, .ref sC, .ref sW, .ref sD, .int 0, .ref pG, .int 0, .int 0, .ref wO, .ref fO, .ref mO, .ref cO, .long 0, .ref th, .int 0, .int 0, .int 0, .int 0, .ref kK, .ref kL, .ref kC, .ref kW, .ref kD, .long 0]))] zz) := by
  refine Met.ofW (cc := cX5_readCube) (maxL := 3) (ret := (some .int)) (by decide) rfl ?_
  intro p e s m args below meth c s₁ B hml hv
  obtain ⟨rfl, hsz, hP, hD0, hX⟩ := hv
  have hx := B.exec
  have hb := B.bytes
  have hr := B.returns
  have hts := atoms_spec (ws := wsX5_readCube) B.pre
  have hown : s.vm.findClass RX5 = some m.cls := findClass_of_methodNamed B.named
  have hlocks := B.notSynchronized
  subst hsz
  have hD := hD0.self (sz := s.heap.size)
  generalize hAe : va_A [(m0, .inr (5, [.int 0, .int 0, .ref kO, .ref lO, .int 0, .int 0, .int 0, .ref sC, .ref sW, .ref sD, .int 0, .ref pG, .int 0, .int 0, .ref wO, .ref fO, .ref mO, .ref cO, .long 0, .ref th, .int 0, .int 0, .int 0, .int 0, .ref kK, .ref kL, .ref kC, .ref kW, .ref kD, .long 0]))] s.heap.size = A at hD hX ⊢
  have hA : ∀ q : Nat, s.heap.size ≤ q → A q := fun q h => by rw [← hAe]; exact Or.inr h
  obtain ⟨H, hH⟩ : ∃ H : Heap, H = s.heap := ⟨_, rfl⟩
  have hS : va_S A s.heap H [] := hH ▸ va_S.rf
  have hK := hX.1
  have hP : va_P D vwCl [(m0, .inr (5, [.int 0, .int 0, .ref kO, .ref lO, .int 0, .int 0, .int 0, .ref sC, .ref sW, .ref sD, .int 0, .ref pG, .int 0, .int 0, .ref wO, .ref fO, .ref mO, .ref cO, .long 0, .ref th, .int 0, .int 0, .int 0, .int 0, .ref kK, .ref kL, .ref kC, .ref kW, .ref kD, .long 0]))] H := hH ▸ hP
  rw [← hH]
  have hl := lv_entry ([.ref m0, .int 0]) (n := 3) (Nat.le_of_ble_eq_true rfl)
  rw [lg_entry_eq]
  generalize (lg_sl ([.ref m0, .int 0]) ++ List.replicate (3 - (lg_sl ([.ref m0, .int 0])).length) Slot.unset).toArray = ls at hl ⊢
  have hl : lv_has ls 3 [(0, .ref m0), (1, .int 0)] := hl
  refine lv_aload_n hx hb dX5_readCube_0 rfl (lv_at hl 0 rfl) ?_
  refine lv_iload_n hx hb dX5_readCube_1 rfl (lv_at hl 1 rfl) ?_
  refine kc_i (wc := [(m0, .inr (5, [.int 0, .int 0, .ref kO, .ref lO, .int 0, .int 0, .int 0, .ref sC, .ref sW, .ref sD, .int 0, .ref pG, .int 0, .int 0, .ref wO, .ref fO, .ref mO, .ref cO, .long 0, .ref th, .int 0, .int 0, .int 0, .int 0, .ref kK, .ref kL, .ref kC, .ref kW, .ref kD, .long 0]))]) (wr := []) (va_runV (As := [.int 0]) (rest := []) ⟨hx, hb, hml, hown, hts⟩ (c_X5_at l D cy H.size m0 kO lO sC sW sD pG wO fO mO cO th kK kL kC kW kD ) (cwV 1 hts gX5_readCube_X5_at rfl rfl rfl (by decide +kernel) ⟨Nat.le_of_ble_eq_true rfl, Nat.le_of_ble_eq_true rfl⟩) (cpre_V (wc := [(m0, .inr (5, [.int 0, .int 0, .ref kO, .ref lO, .int 0, .int 0, .int 0, .ref sC, .ref sW, .ref sD, .int 0, .ref pG, .int 0, .int 0, .ref wO, .ref fO, .ref mO, .ref cO, .long 0, .ref th, .int 0, .int 0, .int 0, .int 0, .ref kK, .ref kL, .ref kC, .ref kW, .ref kD, .long 0]))]) 0 5 rfl rfl hX hP hD hS hA [0] (by decide +kernel) rfl) rfl rfl hl.1 rfl (lv_room (Nat.le_of_ble_eq_true rfl)) dX5_readCube_2 ⟨Nat.le_of_ble_eq_true rfl, Nat.le_of_ble_eq_true rfl⟩) hP hD hS hA [0] [] rfl rfl (by decide +kernel) (by decide +kernel) (fun rl u1 H locs hw hP hD hS => ?_)
  obtain ⟨hu, hrl⟩ := hw
  subst hu
  have hP : va_P D vwCl [(m0, .inr (5, [.int 0, .int 0, .ref kO, .ref lO, .int 0, .int 0, .int 0, .ref sC, .ref sW, .ref sD, .int 0, .ref pG, .int 0, .int 0, .ref wO, .ref fO, .ref mO, .ref cO, .long 0, .ref th, .int 0, .int 0, .int 0, .int 0, .ref kK, .ref kL, .ref kC, .ref kW, .ref kD, .long 0]))] H := hP
  have hD : va_D A [(m0, .inr (5, [.int 0, .int 0, .ref kO, .ref lO, .int 0, .int 0, .int 0, .ref sC, .ref sW, .ref sD, .int 0, .ref pG, .int 0, .int 0, .ref wO, .ref fO, .ref mO, .ref cO, .long 0, .ref th, .int 0, .int 0, .int 0, .int 0, .ref kK, .ref kL, .ref kC, .ref kW, .ref kD, .long 0]))] := hD
  subst hrl
  refine kc_i (wc := []) (wr := [(m0, .inr (5, [.int 0, .int 0, .ref kO, .ref lO, .int 0, .int 0, .int 0, .ref sC, .ref sW, .ref sD, .int 0, .ref pG, .int 0, .int 0, .ref wO, .ref fO, .ref mO, .ref cO, .long 0, .ref th, .int 0, .int 0, .int 0, .int 0, .ref kK, .ref kL, .ref kC, .ref kW, .ref kD, .long 0]))]) (va_runS (As := [.int 0]) (rest := []) ⟨hx, hb, hml, hown, hts⟩ (c_X5_kindBy l D cy H.size  ) (va_cwS 1 hts gX5_readCube_X5_kindBy rfl rfl rfl (by decide +kernel) ⟨Nat.le_of_ble_eq_true rfl, Nat.le_of_ble_eq_true rfl⟩) (cpre_S (wc := []) hX hP hD hS hA [] (by decide +kernel) rfl) rfl rfl hl.1 rfl (lv_room (Nat.le_of_ble_eq_true rfl)) dX5_readCube_5 ⟨Nat.le_of_ble_eq_true rfl, Nat.le_of_ble_eq_true rfl⟩) hP hD hS hA [] [0] rfl rfl (by decide +kernel) (by decide +kernel) (fun rl u2 H locs hw hP hD hS => ?_)
  obtain ⟨hu, hrl⟩ := hw
  subst hu
  have hP : va_P D vwCl [(m0, .inr (5, [.int 0, .int 0, .ref kO, .ref lO, .int 0, .int 0, .int 0, .ref sC, .ref sW, .ref sD, .int 0, .ref pG, .int 0, .int 0, .ref wO, .ref fO, .ref mO, .ref cO, .long 0, .ref th, .int 0, .int 0, .int 0, .int 0, .ref kK, .ref kL, .ref kC, .ref kW, .ref kD, .long 0]))] H := hP
  have hD : va_D A [(m0, .inr (5, [.int 0, .int 0, .ref kO, .ref lO, .int 0, .int 0, .int 0, .ref sC, .ref sW, .ref sD, .int 0, .ref pG, .int 0, .int 0, .ref wO, .ref fO, .ref mO, .ref cO, .long 0, .ref th, .int 0, .int 0, .int 0, .int 0, .ref kK, .ref kL, .ref kC, .ref kW, .ref kD, .long 0]))] := hD
  subst hrl
  refine lv_iconst (v := (-1)) hx hb dX5_readCube_8 (by decide) ?_
  refine lv_icmp_ne (tgt := 14) hx hb dX5_readCube_9 (by decide) (fun c_9 => ?_) (fun c_9 => ?_)
  · exact absurd c_9 (by decide)
  · refine lv_iload_n hx hb dX5_readCube_12 rfl (lv_at hl 1 rfl) ?_
    have hP9 := hP.sub (ws' := [(m0, .inr (5, [.int 0, .int 0, .ref kO, .ref lO, .int 0, .int 0, .int 0, .ref sC, .ref sW, .ref sD, .int 0, .ref pG, .int 0, .int 0, .ref wO, .ref fO, .ref mO, .ref cO, .long 0, .ref th, .int 0, .int 0, .int 0, .int 0, .ref kK, .ref kL, .ref kC, .ref kW, .ref kD, .long 0]))]) [0] rfl
    have hD9 := hD.sub (ws' := [(m0, .inr (5, [.int 0, .int 0, .ref kO, .ref lO, .int 0, .int 0, .int 0, .ref sC, .ref sW, .ref sD, .int 0, .ref pG, .int 0, .int 0, .ref wO, .ref fO, .ref mO, .ref cO, .long 0, .ref th, .int 0, .int 0, .int 0, .int 0, .ref kK, .ref kL, .ref kC, .ref kW, .ref kD, .long 0]))]) [0] (by decide +kernel) rfl
    exact W.iret (v := 0) hx hb hr (fun t9 ht9 hW9 => ⟨⟨0, [(m0, .inr (5, [.int 0, .int 0, .ref kO, .ref lO, .int 0, .int 0, .int 0, .ref sC, .ref sW, .ref sD, .int 0, .ref pG, .int 0, .int 0, .ref wO, .ref fO, .ref mO, .ref cO, .long 0, .ref th, .int 0, .int 0, .int 0, .int 0, .ref kK, .ref kL, .ref kC, .ref kW, .ref kD, .long 0]))], rfl, ⟨rfl, rfl⟩, by rw [ht9]; exact hP9, hD9⟩, hS.F ht9⟩) hS.2.2 dX5_readCube_13
def q_X5_read (cy : Nat → ClassId) (m0 : Nat) (kO : Nat) (lO : Nat) (sC : Nat) (sW : Nat) (sD : Nat) (pG : Nat) (wO : Nat) (fO : Nat) (mO : Nat) (cO : Nat) (th : Nat) (kK : Nat) (kL : Nat) (kC : Nat) (kW : Nat) (kD : Nat) : Int32 → va_W → Prop := fun (r : Int32) (u : va_W) => u = [(m0, .inr (5, [.int 0, .int 0, .ref kO, .ref lO, .int 0, .int 0, .int 0, .ref sC, .ref sW, .ref sD, .int 0, .ref pG, .int 0, .int 0, .ref wO, .ref fO, .ref mO, .ref cO, .long 0, .ref th, .int 0, .int 0, .int 0, .int 0, .ref kK, .ref kL, .ref kC, .ref kW, .ref kD, .long 0]))] ∧ r = 0
set_option maxHeartbeats 4000000 in
set_option maxRecDepth 100000 in
theorem c_X5_read (l : Launch) (D : va_G) (cy : Nat → ClassId) (zz : Nat) (m0 : Nat) (kO : Nat) (lO : Nat) (sC : Nat) (sW : Nat) (sD : Nat) (pG : Nat) (wO : Nat) (fO : Nat) (mO : Nat) (cO : Nat) (th : Nat) (kK : Nat) (kL : Nat) (kC : Nat) (kW : Nat) (kD : Nat) : Met l yX5_read wsX5_read ({ frames := 2, cells := 0, slots := 0, locals := 43 } : Room) (va_Pc [.ref m0] (cpre D cy [(m0, .inr (5, [.int 0, .int 0, .ref kO, .ref lO, .int 0, .int 0, .int 0, .ref sC, .ref sW, .ref sD, .int 0, .ref pG, .int 0, .int 0, .ref wO, .ref fO, .ref mO, .ref cO, .long 0, .ref th, .int 0, .int 0, .int 0, .int 0, .ref kK, .ref kL, .ref kC, .ref kW, .ref kD, .long 0]))] zz)) (va_Qi (q_X5_read cy m0 kO lO sC sW sD pG wO fO mO cO th kK kL kC kW kD) (cpost D (va_A [(m0, .inr (5, [.int 0, .int 0, .ref kO, .ref lO, .int 0, .int 0, .int 0, .ref sC, .ref sW, .ref sD, .int 0, .ref pG, .int 0, .int 0, .ref wO, .ref fO, .ref mO, .ref cO, .long 0, .ref th, .int 0, .int 0, .int 0, .int 0, .ref kK, .ref kL, .ref kC, .ref kW, .ref kD, .long 0]))] zz)) (va_A [(m0, .inr (5, [.int 0, .int 0, .ref kO, .ref lO, .int 0, .int 0, .int 0, .ref sC, .ref sW, .ref sD, .int 0, .ref pG, .int 0, .int 0, .ref wO, .ref fO, .ref mO, .ref cO, .long 0, .ref th, .int 0, .int 0, .int 0, .int 0, .ref kK, .ref kL, .ref kC, .ref kW, .ref kD, .long 0]))] zz)) 0 0 (va_A [(m0, .inr (5, [.int 0, .int 0, .ref kO, .ref lO, .int 0, .int 0, .int 0, .ref sC, .ref sW, .ref sD, .int 0, .ref pG, .int 0, .int 0, .ref wO, .ref fO, .ref mO, .ref cO, .long 0, .ref th, .int 0, .int 0, .int 0, .int 0, .ref kK, .ref kL, .ref kC, .ref kW, .ref kD, .long 0]))] zz) := by
  refine Met.ofW (cc := cX5_read) (maxL := 3) (ret := (some .int)) (by decide) rfl ?_
  intro p e s m args below meth c s₁ B hml hv
  obtain ⟨rfl, hsz, hP, hD0, hX⟩ := hv
  have hx := B.exec
  have hb := B.bytes
  have hr := B.returns
  have hts := atoms_spec (ws := wsX5_read) B.pre
  have hown : s.vm.findClass RX5 = some m.cls := findClass_of_methodNamed B.named
  have hlocks := B.notSynchronized
  subst hsz
  have hD := hD0.self (sz := s.heap.size)
  generalize hAe : va_A [(m0, .inr (5, [.int 0, .int 0, .ref kO, .ref lO, .int 0, .int 0, .int 0, .ref sC, .ref sW, .ref sD, .int 0, .ref pG, .int 0, .int 0, .ref wO, .ref fO, .ref mO, .ref cO, .long 0, .ref th, .int 0, .int 0, .int 0, .int 0, .ref kK, .ref kL, .ref kC, .ref kW, .ref kD, .long 0]))] s.heap.size = A at hD hX ⊢
  have hA : ∀ q : Nat, s.heap.size ≤ q → A q := fun q h => by rw [← hAe]; exact Or.inr h
  obtain ⟨H, hH⟩ : ∃ H : Heap, H = s.heap := ⟨_, rfl⟩
  have hS : va_S A s.heap H [] := hH ▸ va_S.rf
  have hK := hX.1
  have hP : va_P D vwCl [(m0, .inr (5, [.int 0, .int 0, .ref kO, .ref lO, .int 0, .int 0, .int 0, .ref sC, .ref sW, .ref sD, .int 0, .ref pG, .int 0, .int 0, .ref wO, .ref fO, .ref mO, .ref cO, .long 0, .ref th, .int 0, .int 0, .int 0, .int 0, .ref kK, .ref kL, .ref kC, .ref kW, .ref kD, .long 0]))] H := hH ▸ hP
  rw [← hH]
  have hw_X5 : ∀ w ∈ wsX50, w ∈ wsX5_read := by decide +kernel
  have f_74 := hts (.fieldLink RX5 74 "CubeTowerModel" "isWhole" "Z") (by decide +kernel)
  have f_78 := hts (.fieldLink RX5 78 "CubeTowerModel" "newCubes" "I") (by decide +kernel)
  have hl := lv_entry ([.ref m0]) (n := 3) (Nat.le_of_ble_eq_true rfl)
  rw [lg_entry_eq]
  generalize (lg_sl ([.ref m0]) ++ List.replicate (3 - (lg_sl ([.ref m0])).length) Slot.unset).toArray = ls at hl ⊢
  have hl : lv_has ls 3 [(0, .ref m0)] := hl
  refine lv_aload_n hx hb dX5_read_0 rfl (lv_at hl 0 rfl) ?_
  refine lv_iconst (v := 0) hx hb dX5_read_1 (by decide) ?_
  refine va_put (D := D) (ci := 5) (v := .int 0) (ty := .boolean) (C := RX5) (T := TX5) (N := 30) hx hb hts hw_X5 tyX5 tyX5_ok nmX5 hown hK hP hD hS 0 rfl rfl 12 (by decide) f_74 (fun _ h9 => h9) rfl (by decide +kernel) rfl rfl (Nat.le_of_ble_eq_true rfl) dX5_read_2 (fun H locs hP hD hS => ?_)
  have hP : va_P D vwCl [(m0, .inr (5, [.int 0, .int 0, .ref kO, .ref lO, .int 0, .int 0, .int 0, .ref sC, .ref sW, .ref sD, .int 0, .ref pG, .int 0, .int 0, .ref wO, .ref fO, .ref mO, .ref cO, .long 0, .ref th, .int 0, .int 0, .int 0, .int 0, .ref kK, .ref kL, .ref kC, .ref kW, .ref kD, .long 0]))] H := hP
  have hD : va_D A [(m0, .inr (5, [.int 0, .int 0, .ref kO, .ref lO, .int 0, .int 0, .int 0, .ref sC, .ref sW, .ref sD, .int 0, .ref pG, .int 0, .int 0, .ref wO, .ref fO, .ref mO, .ref cO, .long 0, .ref th, .int 0, .int 0, .int 0, .int 0, .ref kK, .ref kL, .ref kC, .ref kW, .ref kD, .long 0]))] := hD
  refine lv_aload_n hx hb dX5_read_5 rfl (lv_at hl 0 rfl) ?_
  refine lv_iconst (v := 0) hx hb dX5_read_6 (by decide) ?_
  refine va_put (D := D) (ci := 5) (v := .int 0) (ty := .int) (C := RX5) (T := TX5) (N := 30) hx hb hts hw_X5 tyX5 tyX5_ok nmX5 hown hK hP hD hS 0 rfl rfl 13 (by decide) f_78 (fun _ h9 => h9) rfl (by decide +kernel) rfl rfl (Nat.le_of_ble_eq_true rfl) dX5_read_7 (fun H locs hP hD hS => ?_)
  have hP : va_P D vwCl [(m0, .inr (5, [.int 0, .int 0, .ref kO, .ref lO, .int 0, .int 0, .int 0, .ref sC, .ref sW, .ref sD, .int 0, .ref pG, .int 0, .int 0, .ref wO, .ref fO, .ref mO, .ref cO, .long 0, .ref th, .int 0, .int 0, .int 0, .int 0, .ref kK, .ref kL, .ref kC, .ref kW, .ref kD, .long 0]))] H := hP
  have hD : va_D A [(m0, .inr (5, [.int 0, .int 0, .ref kO, .ref lO, .int 0, .int 0, .int 0, .ref sC, .ref sW, .ref sD, .int 0, .ref pG, .int 0, .int 0, .ref wO, .ref fO, .ref mO, .ref cO, .long 0, .ref th, .int 0, .int 0, .int 0, .int 0, .ref kK, .ref kL, .ref kC, .ref kW, .ref kD, .long 0]))] := hD
  refine lv_iconst (v := 0) hx hb dX5_read_10 (by decide) ?_
  refine lv_istore_n (lv' := [(1, .int 0), (0, .ref m0)]) hx hb dX5_read_11 rfl hl (by decide) rfl (fun ls hl => ?_)
  refine lv_aload_n hx hb dX5_read_12 rfl (lv_at hl 1 rfl) ?_
  refine va_get (D := D) (ci := 5) (v := .int 0) (C := RX5) (T := TX5) (N := 30) hx hb hts hw_X5 hown hK hP 0 rfl rfl 13 (by decide) f_78 (fun _ h9 => h9) rfl dX5_read_13 ?_
  refine lv_iconst (v := 3) hx hb dX5_read_16 (by decide) ?_
  refine lv_icmp_ge (tgt := 101) hx hb dX5_read_17 (by decide) (fun c_17 => ?_) (fun c_17 => ?_)
  · exact absurd c_17 (by decide)
  · refine lv_aload_n hx hb dX5_read_20 rfl (lv_at hl 1 rfl) ?_
    refine lv_iload_n hx hb dX5_read_21 rfl (lv_at hl 0 rfl) ?_
    refine kc_i (wc := [(m0, .inr (5, [.int 0, .int 0, .ref kO, .ref lO, .int 0, .int 0, .int 0, .ref sC, .ref sW, .ref sD, .int 0, .ref pG, .int 0, .int 0, .ref wO, .ref fO, .ref mO, .ref cO, .long 0, .ref th, .int 0, .int 0, .int 0, .int 0, .ref kK, .ref kL, .ref kC, .ref kW, .ref kD, .long 0]))]) (wr := []) (va_runV (As := [.int 0]) (rest := []) ⟨hx, hb, hml, hown, hts⟩ (c_X5_readCube l D cy H.size m0 kO lO sC sW sD pG wO fO mO cO th kK kL kC kW kD ) (cwV 1 hts gX5_read_X5_readCube rfl rfl rfl (by decide +kernel) ⟨Nat.le_of_ble_eq_true rfl, Nat.le_of_ble_eq_true rfl⟩) (cpre_V (wc := [(m0, .inr (5, [.int 0, .int 0, .ref kO, .ref lO, .int 0, .int 0, .int 0, .ref sC, .ref sW, .ref sD, .int 0, .ref pG, .int 0, .int 0, .ref wO, .ref fO, .ref mO, .ref cO, .long 0, .ref th, .int 0, .int 0, .int 0, .int 0, .ref kK, .ref kL, .ref kC, .ref kW, .ref kD, .long 0]))]) 0 5 rfl rfl hX hP hD hS hA [0] (by decide +kernel) rfl) rfl rfl hl.1 rfl (lv_room (Nat.le_of_ble_eq_true rfl)) dX5_read_22 ⟨Nat.le_of_ble_eq_true rfl, Nat.le_of_ble_eq_true rfl⟩) hP hD hS hA [0] [] rfl rfl (by decide +kernel) (by decide +kernel) (fun rl u1 H locs hw hP hD hS => ?_)
    obtain ⟨hu, hrl⟩ := hw
    subst hu
    have hP : va_P D vwCl [(m0, .inr (5, [.int 0, .int 0, .ref kO, .ref lO, .int 0, .int 0, .int 0, .ref sC, .ref sW, .ref sD, .int 0, .ref pG, .int 0, .int 0, .ref wO, .ref fO, .ref mO, .ref cO, .long 0, .ref th, .int 0, .int 0, .int 0, .int 0, .ref kK, .ref kL, .ref kC, .ref kW, .ref kD, .long 0]))] H := hP
    have hD : va_D A [(m0, .inr (5, [.int 0, .int 0, .ref kO, .ref lO, .int 0, .int 0, .int 0, .ref sC, .ref sW, .ref sD, .int 0, .ref pG, .int 0, .int 0, .ref wO, .ref fO, .ref mO, .ref cO, .long 0, .ref th, .int 0, .int 0, .int 0, .int 0, .ref kK, .ref kL, .ref kC, .ref kW, .ref kD, .long 0]))] := hD
    subst hrl
    refine lv_istore_n (lv' := [(2, .int 0), (1, .int 0), (0, .ref m0)]) hx hb dX5_read_25 rfl hl (by decide) rfl (fun ls hl => ?_)
    refine lv_iload_n hx hb dX5_read_26 rfl (lv_at hl 0 rfl) ?_
    refine lv_iload_n hx hb dX5_read_27 rfl (lv_at hl 1 rfl) ?_
    refine lv_iconst (v := 1) hx hb dX5_read_28 (by decide) ?_
    refine lv_iadd hx hb dX5_read_29 ?_
    refine lv_topi (fun y2 ey2 => ?_)
    obtain rfl : y2 = 1 := ey2.trans (by decide)
    refine lv_bipush (v := 6) hx hb dX5_read_30 (by decide) ?_
    refine lv_iadd hx hb dX5_read_32 ?_
    refine lv_topi (fun y3 ey3 => ?_)
    obtain rfl : y3 = 7 := ey3.trans (by decide)
    refine lv_icmp_eq (tgt := 38) hx hb dX5_read_33 (by decide) (fun c_33 => ?_) (fun c_33 => ?_)
    · exact absurd c_33 (by decide)
    · refine lv_iload_n hx hb dX5_read_36 rfl (lv_at hl 0 rfl) ?_
      have hP9 := hP.sub (ws' := [(m0, .inr (5, [.int 0, .int 0, .ref kO, .ref lO, .int 0, .int 0, .int 0, .ref sC, .ref sW, .ref sD, .int 0, .ref pG, .int 0, .int 0, .ref wO, .ref fO, .ref mO, .ref cO, .long 0, .ref th, .int 0, .int 0, .int 0, .int 0, .ref kK, .ref kL, .ref kC, .ref kW, .ref kD, .long 0]))]) [0] rfl
      have hD9 := hD.sub (ws' := [(m0, .inr (5, [.int 0, .int 0, .ref kO, .ref lO, .int 0, .int 0, .int 0, .ref sC, .ref sW, .ref sD, .int 0, .ref pG, .int 0, .int 0, .ref wO, .ref fO, .ref mO, .ref cO, .long 0, .ref th, .int 0, .int 0, .int 0, .int 0, .ref kK, .ref kL, .ref kC, .ref kW, .ref kD, .long 0]))]) [0] (by decide +kernel) rfl
      exact W.iret (v := 0) hx hb hr (fun t9 ht9 hW9 => ⟨⟨0, [(m0, .inr (5, [.int 0, .int 0, .ref kO, .ref lO, .int 0, .int 0, .int 0, .ref sC, .ref sW, .ref sD, .int 0, .ref pG, .int 0, .int 0, .ref wO, .ref fO, .ref mO, .ref cO, .long 0, .ref th, .int 0, .int 0, .int 0, .int 0, .ref kK, .ref kL, .ref kC, .ref kW, .ref kD, .long 0]))], rfl, ⟨rfl, rfl⟩, by rw [ht9]; exact hP9, hD9⟩, hS.F ht9⟩) hS.2.2 dX5_read_37
def q_X5_fault (cy : Nat → ClassId) (m0 : Nat) (kO : Nat) (lO : Nat) (sC : Nat) (sW : Nat) (sD : Nat) (pG : Nat) (wO : Nat) (fO : Nat) (mO : Nat) (cO : Nat) (th : Nat) (kK : Nat) (kL : Nat) (kC : Nat) (kW : Nat) (kD : Nat) : Int32 → va_W → Prop := fun (r : Int32) (u : va_W) => u = [(m0, .inr (5, [.int 0, .int 0, .ref kO, .ref lO, .int 0, .int 0, .int 0, .ref sC, .ref sW, .ref sD, .int 0, .ref pG, .int 0, .int 0, .ref wO, .ref fO, .ref mO, .ref cO, .long 0, .ref th, .int 0, .int 0, .int 0, .int 0, .ref kK, .ref kL, .ref kC, .ref kW, .ref kD, .long 0]))] ∧ r = 0
set_option maxHeartbeats 4000000 in
set_option maxRecDepth 100000 in
theorem c_X5_fault (l : Launch) (D : va_G) (cy : Nat → ClassId) (zz : Nat) (m0 : Nat) (kO : Nat) (lO : Nat) (sC : Nat) (sW : Nat) (sD : Nat) (pG : Nat) (wO : Nat) (fO : Nat) (mO : Nat) (cO : Nat) (th : Nat) (kK : Nat) (kL : Nat) (kC : Nat) (kW : Nat) (kD : Nat) : Met l yX5_fault wsX5_fault ({ frames := 3, cells := 0, slots := 0, locals := 65 } : Room) (va_Pc [.ref m0] (cpre D cy [(m0, .inr (5, [.int 0, .int 0, .ref kO, .ref lO, .int 0, .int 0, .int 0, .ref sC, .ref sW, .ref sD, .int 0, .ref pG, .int 0, .int 0, .ref wO, .ref fO, .ref mO, .ref cO, .long 0, .ref th, .int 0, .int 0, .int 0, .int 0, .ref kK, .ref kL, .ref kC, .ref kW, .ref kD, .long 0]))] zz)) (va_Qi (q_X5_fault cy m0 kO lO sC sW sD pG wO fO mO cO th kK kL kC kW kD) (cpost D (va_A [(m0, .inr (5, [.int 0, .int 0, .ref kO, .ref lO, .int 0, .int 0, .int 0, .ref sC, .ref sW, .ref sD, .int 0, .ref pG, .int 0, .int 0, .ref wO, .ref fO, .ref mO, .ref cO, .long 0, .ref th, .int 0, .int 0, .int 0, .int 0, .ref kK, .ref kL, .ref kC, .ref kW, .ref kD, .long 0]))] zz)) (va_A [(m0, .inr (5, [.int 0, .int 0, .ref kO, .ref lO, .int 0, .int 0, .int 0, .ref sC, .ref sW, .ref sD, .int 0, .ref pG, .int 0, .int 0, .ref wO, .ref fO, .ref mO, .ref cO, .long 0, .ref th, .int 0, .int 0, .int 0, .int 0, .ref kK, .ref kL, .ref kC, .ref kW, .ref kD, .long 0]))] zz)) 0 0 (va_A [(m0, .inr (5, [.int 0, .int 0, .ref kO, .ref lO, .int 0, .int 0, .int 0, .ref sC, .ref sW, .ref sD, .int 0, .ref pG, .int 0, .int 0, .ref wO, .ref fO, .ref mO, .ref cO, .long 0, .ref th, .int 0, .int 0, .int 0, .int 0, .ref kK, .ref kL, .ref kC, .ref kW, .ref kD, .long 0]))] zz) := by
  refine Met.ofW (cc := cX5_fault) (maxL := 1) (ret := (some .int)) (by decide) rfl ?_
  intro p e s m args below meth c s₁ B hml hv
  obtain ⟨rfl, hsz, hP, hD0, hX⟩ := hv
  have hx := B.exec
  have hb := B.bytes
  have hr := B.returns
  have hts := atoms_spec (ws := wsX5_fault) B.pre
  have hown : s.vm.findClass RX5 = some m.cls := findClass_of_methodNamed B.named
  have hlocks := B.notSynchronized
  subst hsz
  have hD := hD0.self (sz := s.heap.size)
  generalize hAe : va_A [(m0, .inr (5, [.int 0, .int 0, .ref kO, .ref lO, .int 0, .int 0, .int 0, .ref sC, .ref sW, .ref sD, .int 0, .ref pG, .int 0, .int 0, .ref wO, .ref fO, .ref mO, .ref cO, .long 0, .ref th, .int 0, .int 0, .int 0, .int 0, .ref kK, .ref kL, .ref kC, .ref kW, .ref kD, .long 0]))] s.heap.size = A at hD hX ⊢
  have hA : ∀ q : Nat, s.heap.size ≤ q → A q := fun q h => by rw [← hAe]; exact Or.inr h
  obtain ⟨H, hH⟩ : ∃ H : Heap, H = s.heap := ⟨_, rfl⟩
  have hS : va_S A s.heap H [] := hH ▸ va_S.rf
  have hK := hX.1
  have hP : va_P D vwCl [(m0, .inr (5, [.int 0, .int 0, .ref kO, .ref lO, .int 0, .int 0, .int 0, .ref sC, .ref sW, .ref sD, .int 0, .ref pG, .int 0, .int 0, .ref wO, .ref fO, .ref mO, .ref cO, .long 0, .ref th, .int 0, .int 0, .int 0, .int 0, .ref kK, .ref kL, .ref kC, .ref kW, .ref kD, .long 0]))] H := hH ▸ hP
  rw [← hH]
  have hl := lv_entry ([.ref m0]) (n := 1) (Nat.le_of_ble_eq_true rfl)
  rw [lg_entry_eq]
  generalize (lg_sl ([.ref m0]) ++ List.replicate (1 - (lg_sl ([.ref m0])).length) Slot.unset).toArray = ls at hl ⊢
  have hl : lv_has ls 1 [(0, .ref m0)] := hl
  refine lv_aload_n hx hb dX5_fault_0 rfl (lv_at hl 0 rfl) ?_
  refine kc_i (wc := [(m0, .inr (5, [.int 0, .int 0, .ref kO, .ref lO, .int 0, .int 0, .int 0, .ref sC, .ref sW, .ref sD, .int 0, .ref pG, .int 0, .int 0, .ref wO, .ref fO, .ref mO, .ref cO, .long 0, .ref th, .int 0, .int 0, .int 0, .int 0, .ref kK, .ref kL, .ref kC, .ref kW, .ref kD, .long 0]))]) (wr := []) (va_runV (As := []) (rest := []) ⟨hx, hb, hml, hown, hts⟩ (c_X5_read l D cy H.size m0 kO lO sC sW sD pG wO fO mO cO th kK kL kC kW kD ) (cwV 0 hts gX5_fault_X5_read rfl rfl rfl (by decide +kernel) ⟨Nat.le_of_ble_eq_true rfl, Nat.le_of_ble_eq_true rfl⟩) (cpre_V (wc := [(m0, .inr (5, [.int 0, .int 0, .ref kO, .ref lO, .int 0, .int 0, .int 0, .ref sC, .ref sW, .ref sD, .int 0, .ref pG, .int 0, .int 0, .ref wO, .ref fO, .ref mO, .ref cO, .long 0, .ref th, .int 0, .int 0, .int 0, .int 0, .ref kK, .ref kL, .ref kC, .ref kW, .ref kD, .long 0]))]) 0 5 rfl rfl hX hP hD hS hA [0] (by decide +kernel) rfl) rfl rfl hl.1 rfl (lv_room (Nat.le_of_ble_eq_true rfl)) dX5_fault_1 ⟨Nat.le_of_ble_eq_true rfl, Nat.le_of_ble_eq_true rfl⟩) hP hD hS hA [0] [] rfl rfl (by decide +kernel) (by decide +kernel) (fun rl u1 H locs hw hP hD hS => ?_)
  obtain ⟨hu, hrl⟩ := hw
  subst hu
  have hP : va_P D vwCl [(m0, .inr (5, [.int 0, .int 0, .ref kO, .ref lO, .int 0, .int 0, .int 0, .ref sC, .ref sW, .ref sD, .int 0, .ref pG, .int 0, .int 0, .ref wO, .ref fO, .ref mO, .ref cO, .long 0, .ref th, .int 0, .int 0, .int 0, .int 0, .ref kK, .ref kL, .ref kC, .ref kW, .ref kD, .long 0]))] H := hP
  have hD : va_D A [(m0, .inr (5, [.int 0, .int 0, .ref kO, .ref lO, .int 0, .int 0, .int 0, .ref sC, .ref sW, .ref sD, .int 0, .ref pG, .int 0, .int 0, .ref wO, .ref fO, .ref mO, .ref cO, .long 0, .ref th, .int 0, .int 0, .int 0, .int 0, .ref kK, .ref kL, .ref kC, .ref kW, .ref kD, .long 0]))] := hD
  subst hrl
  have hP9 := hP.sub (ws' := [(m0, .inr (5, [.int 0, .int 0, .ref kO, .ref lO, .int 0, .int 0, .int 0, .ref sC, .ref sW, .ref sD, .int 0, .ref pG, .int 0, .int 0, .ref wO, .ref fO, .ref mO, .ref cO, .long 0, .ref th, .int 0, .int 0, .int 0, .int 0, .ref kK, .ref kL, .ref kC, .ref kW, .ref kD, .long 0]))]) [0] rfl
  have hD9 := hD.sub (ws' := [(m0, .inr (5, [.int 0, .int 0, .ref kO, .ref lO, .int 0, .int 0, .int 0, .ref sC, .ref sW, .ref sD, .int 0, .ref pG, .int 0, .int 0, .ref wO, .ref fO, .ref mO, .ref cO, .long 0, .ref th, .int 0, .int 0, .int 0, .int 0, .ref kK, .ref kL, .ref kC, .ref kW, .ref kD, .long 0]))]) [0] (by decide +kernel) rfl
  exact W.iret (v := 0) hx hb hr (fun t9 ht9 hW9 => ⟨⟨0, [(m0, .inr (5, [.int 0, .int 0, .ref kO, .ref lO, .int 0, .int 0, .int 0, .ref sC, .ref sW, .ref sD, .int 0, .ref pG, .int 0, .int 0, .ref wO, .ref fO, .ref mO, .ref cO, .long 0, .ref th, .int 0, .int 0, .int 0, .int 0, .ref kK, .ref kL, .ref kC, .ref kW, .ref kD, .long 0]))], rfl, ⟨rfl, rfl⟩, by rw [ht9]; exact hP9, hD9⟩, hS.F ht9⟩) hS.2.2 dX5_fault_4
def q_X5_tower (cy : Nat → ClassId) (m0 : Nat) (kO : Nat) (lO : Nat) (sC : Nat) (sW : Nat) (sD : Nat) (pG : Nat) (wO : Nat) (fO : Nat) (mO : Nat) (cO : Nat) (th : Nat) (kK : Nat) (kL : Nat) (kC : Nat) (kW : Nat) (kD : Nat) : Int32 → va_W → Prop := fun (r : Int32) (u : va_W) => u = [(m0, .inr (5, [.int 0, .int 0, .ref kO, .ref lO, .int 0, .int 0, .int 0, .ref sC, .ref sW, .ref sD, .int 0, .ref pG, .int 0, .int 0, .ref wO, .ref fO, .ref mO, .ref cO, .long 0, .ref th, .int 0, .int 0, .int 0, .int 0, .ref kK, .ref kL, .ref kC, .ref kW, .ref kD, .long 0]))] ∧ r = -103
set_option maxHeartbeats 4000000 in
set_option maxRecDepth 100000 in
theorem c_X5_tower (l : Launch) (D : va_G) (cy : Nat → ClassId) (zz : Nat) (m0 : Nat) (kO : Nat) (lO : Nat) (sC : Nat) (sW : Nat) (sD : Nat) (pG : Nat) (wO : Nat) (fO : Nat) (mO : Nat) (cO : Nat) (th : Nat) (kK : Nat) (kL : Nat) (kC : Nat) (kW : Nat) (kD : Nat) : Met l yX5_tower wsX5_tower ({ frames := 3, cells := 0, slots := 0, locals := 65 } : Room) (va_Pc [.ref m0] (cpre D cy [(m0, .inr (5, [.int 0, .int 0, .ref kO, .ref lO, .int 0, .int 0, .int 0, .ref sC, .ref sW, .ref sD, .int 0, .ref pG, .int 0, .int 0, .ref wO, .ref fO, .ref mO, .ref cO, .long 0, .ref th, .int 0, .int 0, .int 0, .int 0, .ref kK, .ref kL, .ref kC, .ref kW, .ref kD, .long 0]))] zz)) (va_Qi (q_X5_tower cy m0 kO lO sC sW sD pG wO fO mO cO th kK kL kC kW kD) (cpost D (va_A [(m0, .inr (5, [.int 0, .int 0, .ref kO, .ref lO, .int 0, .int 0, .int 0, .ref sC, .ref sW, .ref sD, .int 0, .ref pG, .int 0, .int 0, .ref wO, .ref fO, .ref mO, .ref cO, .long 0, .ref th, .int 0, .int 0, .int 0, .int 0, .ref kK, .ref kL, .ref kC, .ref kW, .ref kD, .long 0]))] zz)) (va_A [(m0, .inr (5, [.int 0, .int 0, .ref kO, .ref lO, .int 0, .int 0, .int 0, .ref sC, .ref sW, .ref sD, .int 0, .ref pG, .int 0, .int 0, .ref wO, .ref fO, .ref mO, .ref cO, .long 0, .ref th, .int 0, .int 0, .int 0, .int 0, .ref kK, .ref kL, .ref kC, .ref kW, .ref kD, .long 0]))] zz)) 0 0 (va_A [(m0, .inr (5, [.int 0, .int 0, .ref kO, .ref lO, .int 0, .int 0, .int 0, .ref sC, .ref sW, .ref sD, .int 0, .ref pG, .int 0, .int 0, .ref wO, .ref fO, .ref mO, .ref cO, .long 0, .ref th, .int 0, .int 0, .int 0, .int 0, .ref kK, .ref kL, .ref kC, .ref kW, .ref kD, .long 0]))] zz) := by
  refine Met.ofW (cc := cX5_tower) (maxL := 3) (ret := (some .int)) (by decide) rfl ?_
  intro p e s m args below meth c s₁ B hml hv
  obtain ⟨rfl, hsz, hP, hD0, hX⟩ := hv
  have hx := B.exec
  have hb := B.bytes
  have hr := B.returns
  have hts := atoms_spec (ws := wsX5_tower) B.pre
  have hown : s.vm.findClass RX5 = some m.cls := findClass_of_methodNamed B.named
  have hlocks := B.notSynchronized
  subst hsz
  have hD := hD0.self (sz := s.heap.size)
  generalize hAe : va_A [(m0, .inr (5, [.int 0, .int 0, .ref kO, .ref lO, .int 0, .int 0, .int 0, .ref sC, .ref sW, .ref sD, .int 0, .ref pG, .int 0, .int 0, .ref wO, .ref fO, .ref mO, .ref cO, .long 0, .ref th, .int 0, .int 0, .int 0, .int 0, .ref kK, .ref kL, .ref kC, .ref kW, .ref kD, .long 0]))] s.heap.size = A at hD hX ⊢
  have hA : ∀ q : Nat, s.heap.size ≤ q → A q := fun q h => by rw [← hAe]; exact Or.inr h
  obtain ⟨H, hH⟩ : ∃ H : Heap, H = s.heap := ⟨_, rfl⟩
  have hS : va_S A s.heap H [] := hH ▸ va_S.rf
  have hK := hX.1
  have hP : va_P D vwCl [(m0, .inr (5, [.int 0, .int 0, .ref kO, .ref lO, .int 0, .int 0, .int 0, .ref sC, .ref sW, .ref sD, .int 0, .ref pG, .int 0, .int 0, .ref wO, .ref fO, .ref mO, .ref cO, .long 0, .ref th, .int 0, .int 0, .int 0, .int 0, .ref kK, .ref kL, .ref kC, .ref kW, .ref kD, .long 0]))] H := hH ▸ hP
  rw [← hH]
  have hw_X5 : ∀ w ∈ wsX50, w ∈ wsX5_tower := by decide +kernel
  have f_74 := hts (.fieldLink RX5 74 "CubeTowerModel" "isWhole" "Z") (by decide +kernel)
  have hl := lv_entry ([.ref m0]) (n := 3) (Nat.le_of_ble_eq_true rfl)
  rw [lg_entry_eq]
  generalize (lg_sl ([.ref m0]) ++ List.replicate (3 - (lg_sl ([.ref m0])).length) Slot.unset).toArray = ls at hl ⊢
  have hl : lv_has ls 3 [(0, .ref m0)] := hl
  refine lv_aload_n hx hb dX5_tower_0 rfl (lv_at hl 0 rfl) ?_
  refine kc_i (wc := [(m0, .inr (5, [.int 0, .int 0, .ref kO, .ref lO, .int 0, .int 0, .int 0, .ref sC, .ref sW, .ref sD, .int 0, .ref pG, .int 0, .int 0, .ref wO, .ref fO, .ref mO, .ref cO, .long 0, .ref th, .int 0, .int 0, .int 0, .int 0, .ref kK, .ref kL, .ref kC, .ref kW, .ref kD, .long 0]))]) (wr := []) (va_runV (As := []) (rest := []) ⟨hx, hb, hml, hown, hts⟩ (c_X5_read l D cy H.size m0 kO lO sC sW sD pG wO fO mO cO th kK kL kC kW kD ) (cwV 0 hts gX5_tower_X5_read rfl rfl rfl (by decide +kernel) ⟨Nat.le_of_ble_eq_true rfl, Nat.le_of_ble_eq_true rfl⟩) (cpre_V (wc := [(m0, .inr (5, [.int 0, .int 0, .ref kO, .ref lO, .int 0, .int 0, .int 0, .ref sC, .ref sW, .ref sD, .int 0, .ref pG, .int 0, .int 0, .ref wO, .ref fO, .ref mO, .ref cO, .long 0, .ref th, .int 0, .int 0, .int 0, .int 0, .ref kK, .ref kL, .ref kC, .ref kW, .ref kD, .long 0]))]) 0 5 rfl rfl hX hP hD hS hA [0] (by decide +kernel) rfl) rfl rfl hl.1 rfl (lv_room (Nat.le_of_ble_eq_true rfl)) dX5_tower_1 ⟨Nat.le_of_ble_eq_true rfl, Nat.le_of_ble_eq_true rfl⟩) hP hD hS hA [0] [] rfl rfl (by decide +kernel) (by decide +kernel) (fun rl u1 H locs hw hP hD hS => ?_)
  obtain ⟨hu, hrl⟩ := hw
  subst hu
  have hP : va_P D vwCl [(m0, .inr (5, [.int 0, .int 0, .ref kO, .ref lO, .int 0, .int 0, .int 0, .ref sC, .ref sW, .ref sD, .int 0, .ref pG, .int 0, .int 0, .ref wO, .ref fO, .ref mO, .ref cO, .long 0, .ref th, .int 0, .int 0, .int 0, .int 0, .ref kK, .ref kL, .ref kC, .ref kW, .ref kD, .long 0]))] H := hP
  have hD : va_D A [(m0, .inr (5, [.int 0, .int 0, .ref kO, .ref lO, .int 0, .int 0, .int 0, .ref sC, .ref sW, .ref sD, .int 0, .ref pG, .int 0, .int 0, .ref wO, .ref fO, .ref mO, .ref cO, .long 0, .ref th, .int 0, .int 0, .int 0, .int 0, .ref kK, .ref kL, .ref kC, .ref kW, .ref kD, .long 0]))] := hD
  subst hrl
  refine lv_pop hx hb dX5_tower_4 rfl ?_
  refine lv_aload_n hx hb dX5_tower_5 rfl (lv_at hl 0 rfl) ?_
  refine va_get (D := D) (ci := 5) (v := .int 0) (C := RX5) (T := TX5) (N := 30) hx hb hts hw_X5 hown hK hP 0 rfl rfl 12 (by decide) f_74 (fun _ h9 => h9) rfl dX5_tower_6 ?_
  refine lv_if_ne (tgt := 15) hx hb dX5_tower_9 (by decide) (fun c_9 => ?_) (fun c_9 => ?_)
  · exact absurd c_9 (by decide)
  · refine lv_bipush (v := (-103)) hx hb dX5_tower_12 (by decide) ?_
    have hP9 := hP.sub (ws' := [(m0, .inr (5, [.int 0, .int 0, .ref kO, .ref lO, .int 0, .int 0, .int 0, .ref sC, .ref sW, .ref sD, .int 0, .ref pG, .int 0, .int 0, .ref wO, .ref fO, .ref mO, .ref cO, .long 0, .ref th, .int 0, .int 0, .int 0, .int 0, .ref kK, .ref kL, .ref kC, .ref kW, .ref kD, .long 0]))]) [0] rfl
    have hD9 := hD.sub (ws' := [(m0, .inr (5, [.int 0, .int 0, .ref kO, .ref lO, .int 0, .int 0, .int 0, .ref sC, .ref sW, .ref sD, .int 0, .ref pG, .int 0, .int 0, .ref wO, .ref fO, .ref mO, .ref cO, .long 0, .ref th, .int 0, .int 0, .int 0, .int 0, .ref kK, .ref kL, .ref kC, .ref kW, .ref kD, .long 0]))]) [0] (by decide +kernel) rfl
    exact W.iret (v := (-103)) hx hb hr (fun t9 ht9 hW9 => ⟨⟨(-103), [(m0, .inr (5, [.int 0, .int 0, .ref kO, .ref lO, .int 0, .int 0, .int 0, .ref sC, .ref sW, .ref sD, .int 0, .ref pG, .int 0, .int 0, .ref wO, .ref fO, .ref mO, .ref cO, .long 0, .ref th, .int 0, .int 0, .int 0, .int 0, .ref kK, .ref kL, .ref kC, .ref kW, .ref kD, .long 0]))], rfl, ⟨rfl, rfl⟩, by rw [ht9]; exact hP9, hD9⟩, hS.F ht9⟩) hS.2.2 dX5_tower_14
def q_X5_size (cy : Nat → ClassId) : Int32 → va_W → Prop := fun (r : Int32) (u : va_W) => u = [] ∧ r = 0
set_option maxHeartbeats 4000000 in
set_option maxRecDepth 100000 in
theorem c_X5_size (l : Launch) (D : va_G) (cy : Nat → ClassId) (zz : Nat) : Met l yX5_size wsX5_size ({ frames := 0, cells := 0, slots := 0, locals := 0 } : Room) (va_Pc [.int 0] (cpre D cy [] zz)) (va_Qi (q_X5_size cy ) (cpost D (va_A [] zz)) (va_A [] zz)) 0 0 (va_A [] zz) := by
  refine Met.ofW (cc := cX5_size) (maxL := 3) (ret := (some .int)) (by decide) rfl ?_
  intro p e s m args below meth c s₁ B hml hv
  obtain ⟨rfl, hsz, hP, hD0, hX⟩ := hv
  have hx := B.exec
  have hb := B.bytes
  have hr := B.returns
  have hts := atoms_spec (ws := wsX5_size) B.pre
  have hown : s.vm.findClass RX5 = some m.cls := findClass_of_methodNamed B.named
  have hlocks := B.notSynchronized
  subst hsz
  have hD := hD0.self (sz := s.heap.size)
  generalize hAe : va_A [] s.heap.size = A at hD hX ⊢
  have hA : ∀ q : Nat, s.heap.size ≤ q → A q := fun q h => by rw [← hAe]; exact Or.inr h
  obtain ⟨H, hH⟩ : ∃ H : Heap, H = s.heap := ⟨_, rfl⟩
  have hS : va_S A s.heap H [] := hH ▸ va_S.rf
  have hK := hX.1
  have hP : va_P D vwCl [] H := hH ▸ hP
  rw [← hH]
  have hl := lv_entry ([.int 0]) (n := 3) (Nat.le_of_ble_eq_true rfl)
  rw [lg_entry_eq]
  generalize (lg_sl ([.int 0]) ++ List.replicate (3 - (lg_sl ([.int 0])).length) Slot.unset).toArray = ls at hl ⊢
  have hl : lv_has ls 3 [(0, .int 0)] := hl
  refine lv_iconst (v := 0) hx hb dX5_size_0 (by decide) ?_
  refine lv_istore_n (lv' := [(1, .int 0), (0, .int 0)]) hx hb dX5_size_1 rfl hl (by decide) rfl (fun ls hl => ?_)
  refine lv_iconst (v := 0) hx hb dX5_size_2 (by decide) ?_
  refine lv_istore_n (lv' := [(2, .int 0), (1, .int 0), (0, .int 0)]) hx hb dX5_size_3 rfl hl (by decide) rfl (fun ls hl => ?_)
  refine lv_iload_n hx hb dX5_size_4 rfl (lv_at hl 0 rfl) ?_
  refine lv_bipush (v := 6) hx hb dX5_size_5 (by decide) ?_
  refine lv_icmp_ge (tgt := 24) hx hb dX5_size_7 (by decide) (fun c_7 => ?_) (fun c_7 => ?_)
  · exact absurd c_7 (by decide)
  · refine lv_iload_n hx hb dX5_size_10 rfl (lv_at hl 1 rfl) ?_
    refine lv_iload_n hx hb dX5_size_11 rfl (lv_at hl 2 rfl) ?_
    refine lv_iload_n hx hb dX5_size_12 rfl (lv_at hl 0 rfl) ?_
    refine lv_ishr hx hb dX5_size_13 ?_
    refine lv_topi (fun y1 ey1 => ?_)
    obtain rfl : y1 = 0 := ey1.trans (by decide)
    refine lv_iconst (v := 1) hx hb dX5_size_14 (by decide) ?_
    refine lv_iand hx hb dX5_size_15 ?_
    refine lv_topi (fun y2 ey2 => ?_)
    obtain rfl : y2 = 0 := ey2.trans (by decide)
    refine lv_iadd hx hb dX5_size_16 ?_
    refine lv_topi (fun y3 ey3 => ?_)
    obtain rfl : y3 = 0 := ey3.trans (by decide)
    refine lv_istore_n (lv' := [(1, .int 0), (2, .int 0), (0, .int 0)]) hx hb dX5_size_17 rfl hl (by decide) rfl (fun ls hl => ?_)
    refine lv_iinc (v := 1) (lv' := [(2, .int 1), (1, .int 0), (0, .int 0)]) hx hb dX5_size_18 hl (k := 1) rfl (by decide) (by decide) rfl (fun ls hl => ?_)
    refine lv_goto (tgt := 4) hx hb dX5_size_21 (by decide) ?_
    refine lv_iload_n hx hb dX5_size_4 rfl (lv_at hl 0 rfl) ?_
    refine lv_bipush (v := 6) hx hb dX5_size_5 (by decide) ?_
    refine lv_icmp_ge (tgt := 24) hx hb dX5_size_7 (by decide) (fun c_7 => ?_) (fun c_7 => ?_)
    · exact absurd c_7 (by decide)
    · refine lv_iload_n hx hb dX5_size_10 rfl (lv_at hl 1 rfl) ?_
      refine lv_iload_n hx hb dX5_size_11 rfl (lv_at hl 2 rfl) ?_
      refine lv_iload_n hx hb dX5_size_12 rfl (lv_at hl 0 rfl) ?_
      refine lv_ishr hx hb dX5_size_13 ?_
      refine lv_topi (fun y4 ey4 => ?_)
      obtain rfl : y4 = 0 := ey4.trans (by decide)
      refine lv_iconst (v := 1) hx hb dX5_size_14 (by decide) ?_
      refine lv_iand hx hb dX5_size_15 ?_
      refine lv_topi (fun y5 ey5 => ?_)
      obtain rfl : y5 = 0 := ey5.trans (by decide)
      refine lv_iadd hx hb dX5_size_16 ?_
      refine lv_topi (fun y6 ey6 => ?_)
      obtain rfl : y6 = 0 := ey6.trans (by decide)
      refine lv_istore_n (lv' := [(1, .int 0), (2, .int 1), (0, .int 0)]) hx hb dX5_size_17 rfl hl (by decide) rfl (fun ls hl => ?_)
      refine lv_iinc (v := 2) (lv' := [(2, .int 2), (1, .int 0), (0, .int 0)]) hx hb dX5_size_18 hl (k := 1) rfl (by decide) (by decide) rfl (fun ls hl => ?_)
      refine lv_goto (tgt := 4) hx hb dX5_size_21 (by decide) ?_
      refine lv_iload_n hx hb dX5_size_4 rfl (lv_at hl 0 rfl) ?_
      refine lv_bipush (v := 6) hx hb dX5_size_5 (by decide) ?_
      refine lv_icmp_ge (tgt := 24) hx hb dX5_size_7 (by decide) (fun c_7 => ?_) (fun c_7 => ?_)
      · exact absurd c_7 (by decide)
      · refine lv_iload_n hx hb dX5_size_10 rfl (lv_at hl 1 rfl) ?_
        refine lv_iload_n hx hb dX5_size_11 rfl (lv_at hl 2 rfl) ?_
        refine lv_iload_n hx hb dX5_size_12 rfl (lv_at hl 0 rfl) ?_
        refine lv_ishr hx hb dX5_size_13 ?_
        refine lv_topi (fun y7 ey7 => ?_)
        obtain rfl : y7 = 0 := ey7.trans (by decide)
        refine lv_iconst (v := 1) hx hb dX5_size_14 (by decide) ?_
        refine lv_iand hx hb dX5_size_15 ?_
        refine lv_topi (fun y8 ey8 => ?_)
        obtain rfl : y8 = 0 := ey8.trans (by decide)
        refine lv_iadd hx hb dX5_size_16 ?_
        refine lv_topi (fun y9 ey9 => ?_)
        obtain rfl : y9 = 0 := ey9.trans (by decide)
        refine lv_istore_n (lv' := [(1, .int 0), (2, .int 2), (0, .int 0)]) hx hb dX5_size_17 rfl hl (by decide) rfl (fun ls hl => ?_)
        refine lv_iinc (v := 3) (lv' := [(2, .int 3), (1, .int 0), (0, .int 0)]) hx hb dX5_size_18 hl (k := 1) rfl (by decide) (by decide) rfl (fun ls hl => ?_)
        refine lv_goto (tgt := 4) hx hb dX5_size_21 (by decide) ?_
        refine lv_iload_n hx hb dX5_size_4 rfl (lv_at hl 0 rfl) ?_
        refine lv_bipush (v := 6) hx hb dX5_size_5 (by decide) ?_
        refine lv_icmp_ge (tgt := 24) hx hb dX5_size_7 (by decide) (fun c_7 => ?_) (fun c_7 => ?_)
        · exact absurd c_7 (by decide)
        · refine lv_iload_n hx hb dX5_size_10 rfl (lv_at hl 1 rfl) ?_
          refine lv_iload_n hx hb dX5_size_11 rfl (lv_at hl 2 rfl) ?_
          refine lv_iload_n hx hb dX5_size_12 rfl (lv_at hl 0 rfl) ?_
          refine lv_ishr hx hb dX5_size_13 ?_
          refine lv_topi (fun y10 ey10 => ?_)
          obtain rfl : y10 = 0 := ey10.trans (by decide)
          refine lv_iconst (v := 1) hx hb dX5_size_14 (by decide) ?_
          refine lv_iand hx hb dX5_size_15 ?_
          refine lv_topi (fun y11 ey11 => ?_)
          obtain rfl : y11 = 0 := ey11.trans (by decide)
          refine lv_iadd hx hb dX5_size_16 ?_
          refine lv_topi (fun y12 ey12 => ?_)
          obtain rfl : y12 = 0 := ey12.trans (by decide)
          refine lv_istore_n (lv' := [(1, .int 0), (2, .int 3), (0, .int 0)]) hx hb dX5_size_17 rfl hl (by decide) rfl (fun ls hl => ?_)
          refine lv_iinc (v := 4) (lv' := [(2, .int 4), (1, .int 0), (0, .int 0)]) hx hb dX5_size_18 hl (k := 1) rfl (by decide) (by decide) rfl (fun ls hl => ?_)
          refine lv_goto (tgt := 4) hx hb dX5_size_21 (by decide) ?_
          refine lv_iload_n hx hb dX5_size_4 rfl (lv_at hl 0 rfl) ?_
          refine lv_bipush (v := 6) hx hb dX5_size_5 (by decide) ?_
          refine lv_icmp_ge (tgt := 24) hx hb dX5_size_7 (by decide) (fun c_7 => ?_) (fun c_7 => ?_)
          · exact absurd c_7 (by decide)
          · refine lv_iload_n hx hb dX5_size_10 rfl (lv_at hl 1 rfl) ?_
            refine lv_iload_n hx hb dX5_size_11 rfl (lv_at hl 2 rfl) ?_
            refine lv_iload_n hx hb dX5_size_12 rfl (lv_at hl 0 rfl) ?_
            refine lv_ishr hx hb dX5_size_13 ?_
            refine lv_topi (fun y13 ey13 => ?_)
            obtain rfl : y13 = 0 := ey13.trans (by decide)
            refine lv_iconst (v := 1) hx hb dX5_size_14 (by decide) ?_
            refine lv_iand hx hb dX5_size_15 ?_
            refine lv_topi (fun y14 ey14 => ?_)
            obtain rfl : y14 = 0 := ey14.trans (by decide)
            refine lv_iadd hx hb dX5_size_16 ?_
            refine lv_topi (fun y15 ey15 => ?_)
            obtain rfl : y15 = 0 := ey15.trans (by decide)
            refine lv_istore_n (lv' := [(1, .int 0), (2, .int 4), (0, .int 0)]) hx hb dX5_size_17 rfl hl (by decide) rfl (fun ls hl => ?_)
            refine lv_iinc (v := 5) (lv' := [(2, .int 5), (1, .int 0), (0, .int 0)]) hx hb dX5_size_18 hl (k := 1) rfl (by decide) (by decide) rfl (fun ls hl => ?_)
            refine lv_goto (tgt := 4) hx hb dX5_size_21 (by decide) ?_
            refine lv_iload_n hx hb dX5_size_4 rfl (lv_at hl 0 rfl) ?_
            refine lv_bipush (v := 6) hx hb dX5_size_5 (by decide) ?_
            refine lv_icmp_ge (tgt := 24) hx hb dX5_size_7 (by decide) (fun c_7 => ?_) (fun c_7 => ?_)
            · exact absurd c_7 (by decide)
            · refine lv_iload_n hx hb dX5_size_10 rfl (lv_at hl 1 rfl) ?_
              refine lv_iload_n hx hb dX5_size_11 rfl (lv_at hl 2 rfl) ?_
              refine lv_iload_n hx hb dX5_size_12 rfl (lv_at hl 0 rfl) ?_
              refine lv_ishr hx hb dX5_size_13 ?_
              refine lv_topi (fun y16 ey16 => ?_)
              obtain rfl : y16 = 0 := ey16.trans (by decide)
              refine lv_iconst (v := 1) hx hb dX5_size_14 (by decide) ?_
              refine lv_iand hx hb dX5_size_15 ?_
              refine lv_topi (fun y17 ey17 => ?_)
              obtain rfl : y17 = 0 := ey17.trans (by decide)
              refine lv_iadd hx hb dX5_size_16 ?_
              refine lv_topi (fun y18 ey18 => ?_)
              obtain rfl : y18 = 0 := ey18.trans (by decide)
              refine lv_istore_n (lv' := [(1, .int 0), (2, .int 5), (0, .int 0)]) hx hb dX5_size_17 rfl hl (by decide) rfl (fun ls hl => ?_)
              refine lv_iinc (v := 6) (lv' := [(2, .int 6), (1, .int 0), (0, .int 0)]) hx hb dX5_size_18 hl (k := 1) rfl (by decide) (by decide) rfl (fun ls hl => ?_)
              refine lv_goto (tgt := 4) hx hb dX5_size_21 (by decide) ?_
              refine lv_iload_n hx hb dX5_size_4 rfl (lv_at hl 0 rfl) ?_
              refine lv_bipush (v := 6) hx hb dX5_size_5 (by decide) ?_
              refine lv_icmp_ge (tgt := 24) hx hb dX5_size_7 (by decide) (fun c_7 => ?_) (fun c_7 => ?_)
              · refine lv_iload_n hx hb dX5_size_24 rfl (lv_at hl 1 rfl) ?_
                have hP9 := hP.sub (ws' := []) [] rfl
                have hD9 := hD.sub (ws' := []) [] (by decide +kernel) rfl
                exact W.iret (v := 0) hx hb hr (fun t9 ht9 hW9 => ⟨⟨0, [], rfl, ⟨rfl, rfl⟩, by rw [ht9]; exact hP9, hD9⟩, hS.F ht9⟩) hS.2.2 dX5_size_25
              · exact absurd c_7 (by decide)
def q_X5_clashes (cy : Nat → ClassId) (m0 : Nat) (kO : Nat) (lO : Nat) (sC : Nat) (sW : Nat) (sD : Nat) (pG : Nat) (wO : Nat) (fO : Nat) (mO : Nat) (cO : Nat) (th : Nat) (kK : Nat) (kL : Nat) (kC : Nat) (kW : Nat) (kD : Nat) (hh : Int64) : Int32 → va_W → Prop := fun (r : Int32) (u : va_W) => u = [(m0, .inr (5, [.int 0, .int 0, .ref kO, .ref lO, .int 0, .int 0, .int 0, .ref sC, .ref sW, .ref sD, .int 0, .ref pG, .int 0, .int 0, .ref wO, .ref fO, .ref mO, .ref cO, .long 0, .ref th, .int 0, .int 0, .int 0, .int 0, .ref kK, .ref kL, .ref kC, .ref kW, .ref kD, .long hh]))] ∧ r = 0
set_option maxHeartbeats 4000000 in
set_option maxRecDepth 100000 in
theorem e_X5_clashes (l : Launch) (D : va_G) (cy : Nat → ClassId) (zz : Nat) (m0 : Nat) (kO : Nat) (lO : Nat) (sC : Nat) (sW : Nat) (sD : Nat) (pG : Nat) (wO : Nat) (fO : Nat) (mO : Nat) (cO : Nat) (th : Nat) (kK : Nat) (kL : Nat) (kC : Nat) (kW : Nat) (kD : Nat) (hh : Int64) : Met l yX5_clashes wsX5_clashes ({ frames := 0, cells := 0, slots := 0, locals := 0 } : Room) (va_Pc [.ref m0] (cpre D cy [(m0, .inr (5, [.int 0, .int 0, .ref kO, .ref lO, .int 0, .int 0, .int 0, .ref sC, .ref sW, .ref sD, .int 0, .ref pG, .int 0, .int 0, .ref wO, .ref fO, .ref mO, .ref cO, .long 0, .ref th, .int 0, .int 0, .int 0, .int 0, .ref kK, .ref kL, .ref kC, .ref kW, .ref kD, .long hh]))] zz)) (va_Qi (q_X5_clashes cy m0 kO lO sC sW sD pG wO fO mO cO th kK kL kC kW kD hh) (cpost D (va_A [(m0, .inr (5, [.int 0, .int 0, .ref kO, .ref lO, .int 0, .int 0, .int 0, .ref sC, .ref sW, .ref sD, .int 0, .ref pG, .int 0, .int 0, .ref wO, .ref fO, .ref mO, .ref cO, .long 0, .ref th, .int 0, .int 0, .int 0, .int 0, .ref kK, .ref kL, .ref kC, .ref kW, .ref kD, .long hh]))] zz)) (va_A [(m0, .inr (5, [.int 0, .int 0, .ref kO, .ref lO, .int 0, .int 0, .int 0, .ref sC, .ref sW, .ref sD, .int 0, .ref pG, .int 0, .int 0, .ref wO, .ref fO, .ref mO, .ref cO, .long 0, .ref th, .int 0, .int 0, .int 0, .int 0, .ref kK, .ref kL, .ref kC, .ref kW, .ref kD, .long hh]))] zz)) 0 0 (va_A [(m0, .inr (5, [.int 0, .int 0, .ref kO, .ref lO, .int 0, .int 0, .int 0, .ref sC, .ref sW, .ref sD, .int 0, .ref pG, .int 0, .int 0, .ref wO, .ref fO, .ref mO, .ref cO, .long 0, .ref th, .int 0, .int 0, .int 0, .int 0, .ref kK, .ref kL, .ref kC, .ref kW, .ref kD, .long hh]))] zz) := by
  refine Met.ofW (cc := cX5_clashes) (maxL := 1) (ret := (some .int)) (by decide) rfl ?_
  intro p e s m args below meth c s₁ B hml hv
  obtain ⟨rfl, hsz, hP, hD0, hX⟩ := hv
  have hx := B.exec
  have hb := B.bytes
  have hr := B.returns
  have hts := atoms_spec (ws := wsX5_clashes) B.pre
  have hown : s.vm.findClass RX5 = some m.cls := findClass_of_methodNamed B.named
  have hlocks := B.notSynchronized
  subst hsz
  have hD := hD0.self (sz := s.heap.size)
  generalize hAe : va_A [(m0, .inr (5, [.int 0, .int 0, .ref kO, .ref lO, .int 0, .int 0, .int 0, .ref sC, .ref sW, .ref sD, .int 0, .ref pG, .int 0, .int 0, .ref wO, .ref fO, .ref mO, .ref cO, .long 0, .ref th, .int 0, .int 0, .int 0, .int 0, .ref kK, .ref kL, .ref kC, .ref kW, .ref kD, .long hh]))] s.heap.size = A at hD hX ⊢
  have hA : ∀ q : Nat, s.heap.size ≤ q → A q := fun q h => by rw [← hAe]; exact Or.inr h
  obtain ⟨H, hH⟩ : ∃ H : Heap, H = s.heap := ⟨_, rfl⟩
  have hS : va_S A s.heap H [] := hH ▸ va_S.rf
  have hK := hX.1
  have hP : va_P D vwCl [(m0, .inr (5, [.int 0, .int 0, .ref kO, .ref lO, .int 0, .int 0, .int 0, .ref sC, .ref sW, .ref sD, .int 0, .ref pG, .int 0, .int 0, .ref wO, .ref fO, .ref mO, .ref cO, .long 0, .ref th, .int 0, .int 0, .int 0, .int 0, .ref kK, .ref kL, .ref kC, .ref kW, .ref kD, .long hh]))] H := hH ▸ hP
  rw [← hH]
  have hw_X5 : ∀ w ∈ wsX50, w ∈ wsX5_clashes := by decide +kernel
  have f_88 := hts (.fieldLink RX5 88 "CubeTowerModel" "cubes" "I") (by decide +kernel)
  have hl := lv_entry ([.ref m0]) (n := 1) (Nat.le_of_ble_eq_true rfl)
  rw [lg_entry_eq]
  generalize (lg_sl ([.ref m0]) ++ List.replicate (1 - (lg_sl ([.ref m0])).length) Slot.unset).toArray = ls at hl ⊢
  have hl : lv_has ls 1 [(0, .ref m0)] := hl
  refine lv_aload_n hx hb dX5_clashes_0 rfl (lv_at hl 0 rfl) ?_
  refine va_get (D := D) (ci := 5) (v := .int 0) (C := RX5) (T := TX5) (N := 30) hx hb hts hw_X5 hown hK hP 0 rfl rfl 1 (by decide) f_88 (fun _ h9 => h9) rfl dX5_clashes_1 ?_
  refine lv_if_ne (tgt := 11) hx hb dX5_clashes_4 (by decide) (fun c_4 => ?_) (fun c_4 => ?_)
  · exact absurd c_4 (by decide)
  · refine lv_iconst (v := 0) hx hb dX5_clashes_7 (by decide) ?_
    refine lv_goto (tgt := 33) hx hb dX5_clashes_8 (by decide) ?_
    have hP9 := hP.sub (ws' := [(m0, .inr (5, [.int 0, .int 0, .ref kO, .ref lO, .int 0, .int 0, .int 0, .ref sC, .ref sW, .ref sD, .int 0, .ref pG, .int 0, .int 0, .ref wO, .ref fO, .ref mO, .ref cO, .long 0, .ref th, .int 0, .int 0, .int 0, .int 0, .ref kK, .ref kL, .ref kC, .ref kW, .ref kD, .long hh]))]) [0] rfl
    have hD9 := hD.sub (ws' := [(m0, .inr (5, [.int 0, .int 0, .ref kO, .ref lO, .int 0, .int 0, .int 0, .ref sC, .ref sW, .ref sD, .int 0, .ref pG, .int 0, .int 0, .ref wO, .ref fO, .ref mO, .ref cO, .long 0, .ref th, .int 0, .int 0, .int 0, .int 0, .ref kK, .ref kL, .ref kC, .ref kW, .ref kD, .long hh]))]) [0] (by decide +kernel) rfl
    exact W.iret (v := 0) hx hb hr (fun t9 ht9 hW9 => ⟨⟨0, [(m0, .inr (5, [.int 0, .int 0, .ref kO, .ref lO, .int 0, .int 0, .int 0, .ref sC, .ref sW, .ref sD, .int 0, .ref pG, .int 0, .int 0, .ref wO, .ref fO, .ref mO, .ref cO, .long 0, .ref th, .int 0, .int 0, .int 0, .int 0, .ref kK, .ref kL, .ref kC, .ref kW, .ref kD, .long hh]))], rfl, ⟨rfl, rfl⟩, by rw [ht9]; exact hP9, hD9⟩, hS.F ht9⟩) hS.2.2 dX5_clashes_33
def q_X5_goodWalls (cy : Nat → ClassId) (m0 : Nat) (kO : Nat) (lO : Nat) (sC : Nat) (sW : Nat) (sD : Nat) (pG : Nat) (wO : Nat) (fO : Nat) (mO : Nat) (cO : Nat) (th : Nat) (kK : Nat) (kL : Nat) (kC : Nat) (kW : Nat) (kD : Nat) (hh : Int64) : Int32 → va_W → Prop := fun (r : Int32) (u : va_W) => u = [(m0, .inr (5, [.int 0, .int 0, .ref kO, .ref lO, .int 0, .int 0, .int 0, .ref sC, .ref sW, .ref sD, .int 0, .ref pG, .int 0, .int 0, .ref wO, .ref fO, .ref mO, .ref cO, .long 0, .ref th, .int 0, .int 0, .int 0, .int 0, .ref kK, .ref kL, .ref kC, .ref kW, .ref kD, .long hh]))] ∧ r = 0
set_option maxHeartbeats 4000000 in
set_option maxRecDepth 100000 in
theorem e_X5_goodWalls (l : Launch) (D : va_G) (cy : Nat → ClassId) (zz : Nat) (m0 : Nat) (kO : Nat) (lO : Nat) (sC : Nat) (sW : Nat) (sD : Nat) (pG : Nat) (wO : Nat) (fO : Nat) (mO : Nat) (cO : Nat) (th : Nat) (kK : Nat) (kL : Nat) (kC : Nat) (kW : Nat) (kD : Nat) (hh : Int64) : Met l yX5_goodWalls wsX5_goodWalls ({ frames := 0, cells := 0, slots := 0, locals := 0 } : Room) (va_Pc [.ref m0] (cpre D cy [(m0, .inr (5, [.int 0, .int 0, .ref kO, .ref lO, .int 0, .int 0, .int 0, .ref sC, .ref sW, .ref sD, .int 0, .ref pG, .int 0, .int 0, .ref wO, .ref fO, .ref mO, .ref cO, .long 0, .ref th, .int 0, .int 0, .int 0, .int 0, .ref kK, .ref kL, .ref kC, .ref kW, .ref kD, .long hh]))] zz)) (va_Qi (q_X5_goodWalls cy m0 kO lO sC sW sD pG wO fO mO cO th kK kL kC kW kD hh) (cpost D (va_A [(m0, .inr (5, [.int 0, .int 0, .ref kO, .ref lO, .int 0, .int 0, .int 0, .ref sC, .ref sW, .ref sD, .int 0, .ref pG, .int 0, .int 0, .ref wO, .ref fO, .ref mO, .ref cO, .long 0, .ref th, .int 0, .int 0, .int 0, .int 0, .ref kK, .ref kL, .ref kC, .ref kW, .ref kD, .long hh]))] zz)) (va_A [(m0, .inr (5, [.int 0, .int 0, .ref kO, .ref lO, .int 0, .int 0, .int 0, .ref sC, .ref sW, .ref sD, .int 0, .ref pG, .int 0, .int 0, .ref wO, .ref fO, .ref mO, .ref cO, .long 0, .ref th, .int 0, .int 0, .int 0, .int 0, .ref kK, .ref kL, .ref kC, .ref kW, .ref kD, .long hh]))] zz)) 0 0 (va_A [(m0, .inr (5, [.int 0, .int 0, .ref kO, .ref lO, .int 0, .int 0, .int 0, .ref sC, .ref sW, .ref sD, .int 0, .ref pG, .int 0, .int 0, .ref wO, .ref fO, .ref mO, .ref cO, .long 0, .ref th, .int 0, .int 0, .int 0, .int 0, .ref kK, .ref kL, .ref kC, .ref kW, .ref kD, .long hh]))] zz) := by
  refine Met.ofW (cc := cX5_goodWalls) (maxL := 3) (ret := (some .int)) (by decide) rfl ?_
  intro p e s m args below meth c s₁ B hml hv
  obtain ⟨rfl, hsz, hP, hD0, hX⟩ := hv
  have hx := B.exec
  have hb := B.bytes
  have hr := B.returns
  have hts := atoms_spec (ws := wsX5_goodWalls) B.pre
  have hown : s.vm.findClass RX5 = some m.cls := findClass_of_methodNamed B.named
  have hlocks := B.notSynchronized
  subst hsz
  have hD := hD0.self (sz := s.heap.size)
  generalize hAe : va_A [(m0, .inr (5, [.int 0, .int 0, .ref kO, .ref lO, .int 0, .int 0, .int 0, .ref sC, .ref sW, .ref sD, .int 0, .ref pG, .int 0, .int 0, .ref wO, .ref fO, .ref mO, .ref cO, .long 0, .ref th, .int 0, .int 0, .int 0, .int 0, .ref kK, .ref kL, .ref kC, .ref kW, .ref kD, .long hh]))] s.heap.size = A at hD hX ⊢
  have hA : ∀ q : Nat, s.heap.size ≤ q → A q := fun q h => by rw [← hAe]; exact Or.inr h
  obtain ⟨H, hH⟩ : ∃ H : Heap, H = s.heap := ⟨_, rfl⟩
  have hS : va_S A s.heap H [] := hH ▸ va_S.rf
  have hK := hX.1
  have hP : va_P D vwCl [(m0, .inr (5, [.int 0, .int 0, .ref kO, .ref lO, .int 0, .int 0, .int 0, .ref sC, .ref sW, .ref sD, .int 0, .ref pG, .int 0, .int 0, .ref wO, .ref fO, .ref mO, .ref cO, .long 0, .ref th, .int 0, .int 0, .int 0, .int 0, .ref kK, .ref kL, .ref kC, .ref kW, .ref kD, .long hh]))] H := hH ▸ hP
  rw [← hH]
  have hw_X5 : ∀ w ∈ wsX50, w ∈ wsX5_goodWalls := by decide +kernel
  have f_88 := hts (.fieldLink RX5 88 "CubeTowerModel" "cubes" "I") (by decide +kernel)
  have hl := lv_entry ([.ref m0]) (n := 3) (Nat.le_of_ble_eq_true rfl)
  rw [lg_entry_eq]
  generalize (lg_sl ([.ref m0]) ++ List.replicate (3 - (lg_sl ([.ref m0])).length) Slot.unset).toArray = ls at hl ⊢
  have hl : lv_has ls 3 [(0, .ref m0)] := hl
  refine lv_iconst (v := 0) hx hb dX5_goodWalls_0 (by decide) ?_
  refine lv_istore_n (lv' := [(1, .int 0), (0, .ref m0)]) hx hb dX5_goodWalls_1 rfl hl (by decide) rfl (fun ls hl => ?_)
  refine lv_iconst (v := 0) hx hb dX5_goodWalls_2 (by decide) ?_
  refine lv_istore_n (lv' := [(2, .int 0), (1, .int 0), (0, .ref m0)]) hx hb dX5_goodWalls_3 rfl hl (by decide) rfl (fun ls hl => ?_)
  refine lv_iload_n hx hb dX5_goodWalls_4 rfl (lv_at hl 0 rfl) ?_
  refine lv_iconst (v := 4) hx hb dX5_goodWalls_5 (by decide) ?_
  refine lv_icmp_ge (tgt := 31) hx hb dX5_goodWalls_6 (by decide) (fun c_6 => ?_) (fun c_6 => ?_)
  · exact absurd c_6 (by decide)
  · refine lv_aload_n hx hb dX5_goodWalls_9 rfl (lv_at hl 2 rfl) ?_
    refine va_get (D := D) (ci := 5) (v := .int 0) (C := RX5) (T := TX5) (N := 30) hx hb hts hw_X5 hown hK hP 0 rfl rfl 1 (by decide) f_88 (fun _ h9 => h9) rfl dX5_goodWalls_10 ?_
    refine lv_if_le (tgt := 31) hx hb dX5_goodWalls_13 (by decide) (fun c_13 => ?_) (fun c_13 => ?_)
    · refine lv_iload_n hx hb dX5_goodWalls_31 rfl (lv_at hl 1 rfl) ?_
      have hP9 := hP.sub (ws' := [(m0, .inr (5, [.int 0, .int 0, .ref kO, .ref lO, .int 0, .int 0, .int 0, .ref sC, .ref sW, .ref sD, .int 0, .ref pG, .int 0, .int 0, .ref wO, .ref fO, .ref mO, .ref cO, .long 0, .ref th, .int 0, .int 0, .int 0, .int 0, .ref kK, .ref kL, .ref kC, .ref kW, .ref kD, .long hh]))]) [0] rfl
      have hD9 := hD.sub (ws' := [(m0, .inr (5, [.int 0, .int 0, .ref kO, .ref lO, .int 0, .int 0, .int 0, .ref sC, .ref sW, .ref sD, .int 0, .ref pG, .int 0, .int 0, .ref wO, .ref fO, .ref mO, .ref cO, .long 0, .ref th, .int 0, .int 0, .int 0, .int 0, .ref kK, .ref kL, .ref kC, .ref kW, .ref kD, .long hh]))]) [0] (by decide +kernel) rfl
      exact W.iret (v := 0) hx hb hr (fun t9 ht9 hW9 => ⟨⟨0, [(m0, .inr (5, [.int 0, .int 0, .ref kO, .ref lO, .int 0, .int 0, .int 0, .ref sC, .ref sW, .ref sD, .int 0, .ref pG, .int 0, .int 0, .ref wO, .ref fO, .ref mO, .ref cO, .long 0, .ref th, .int 0, .int 0, .int 0, .int 0, .ref kK, .ref kL, .ref kC, .ref kW, .ref kD, .long hh]))], rfl, ⟨rfl, rfl⟩, by rw [ht9]; exact hP9, hD9⟩, hS.F ht9⟩) hS.2.2 dX5_goodWalls_32
    · exact absurd c_13 (by decide)
def q_X5_colours (cy : Nat → ClassId) (m0 : Nat) (kO : Nat) (lO : Nat) (sC : Nat) (sW : Nat) (sD : Nat) (pG : Nat) (wO : Nat) (fO : Nat) (mO : Nat) (cO : Nat) (th : Nat) (kK : Nat) (kL : Nat) (kC : Nat) (kW : Nat) (kD : Nat) (hh : Int64) : Int32 → va_W → Prop := fun (r : Int32) (u : va_W) => u = [(m0, .inr (5, [.int 0, .int 0, .ref kO, .ref lO, .int 0, .int 0, .int 0, .ref sC, .ref sW, .ref sD, .int 0, .ref pG, .int 0, .int 0, .ref wO, .ref fO, .ref mO, .ref cO, .long 0, .ref th, .int 0, .int 0, .int 0, .int 0, .ref kK, .ref kL, .ref kC, .ref kW, .ref kD, .long hh]))] ∧ r = 0
set_option maxHeartbeats 4000000 in
set_option maxRecDepth 100000 in
theorem e_X5_colours (l : Launch) (D : va_G) (cy : Nat → ClassId) (zz : Nat) (m0 : Nat) (kO : Nat) (lO : Nat) (sC : Nat) (sW : Nat) (sD : Nat) (pG : Nat) (wO : Nat) (fO : Nat) (mO : Nat) (cO : Nat) (th : Nat) (kK : Nat) (kL : Nat) (kC : Nat) (kW : Nat) (kD : Nat) (hh : Int64) : Met l yX5_colours wsX5_colours ({ frames := 1, cells := 0, slots := 0, locals := 22 } : Room) (va_Pc [.ref m0] (cpre D cy [(m0, .inr (5, [.int 0, .int 0, .ref kO, .ref lO, .int 0, .int 0, .int 0, .ref sC, .ref sW, .ref sD, .int 0, .ref pG, .int 0, .int 0, .ref wO, .ref fO, .ref mO, .ref cO, .long 0, .ref th, .int 0, .int 0, .int 0, .int 0, .ref kK, .ref kL, .ref kC, .ref kW, .ref kD, .long hh]))] zz)) (va_Qi (q_X5_colours cy m0 kO lO sC sW sD pG wO fO mO cO th kK kL kC kW kD hh) (cpost D (va_A [(m0, .inr (5, [.int 0, .int 0, .ref kO, .ref lO, .int 0, .int 0, .int 0, .ref sC, .ref sW, .ref sD, .int 0, .ref pG, .int 0, .int 0, .ref wO, .ref fO, .ref mO, .ref cO, .long 0, .ref th, .int 0, .int 0, .int 0, .int 0, .ref kK, .ref kL, .ref kC, .ref kW, .ref kD, .long hh]))] zz)) (va_A [(m0, .inr (5, [.int 0, .int 0, .ref kO, .ref lO, .int 0, .int 0, .int 0, .ref sC, .ref sW, .ref sD, .int 0, .ref pG, .int 0, .int 0, .ref wO, .ref fO, .ref mO, .ref cO, .long 0, .ref th, .int 0, .int 0, .int 0, .int 0, .ref kK, .ref kL, .ref kC, .ref kW, .ref kD, .long hh]))] zz)) 0 0 (va_A [(m0, .inr (5, [.int 0, .int 0, .ref kO, .ref lO, .int 0, .int 0, .int 0, .ref sC, .ref sW, .ref sD, .int 0, .ref pG, .int 0, .int 0, .ref wO, .ref fO, .ref mO, .ref cO, .long 0, .ref th, .int 0, .int 0, .int 0, .int 0, .ref kK, .ref kL, .ref kC, .ref kW, .ref kD, .long hh]))] zz) := by
  refine Met.ofW (cc := cX5_colours) (maxL := 4) (ret := (some .int)) (by decide) rfl ?_
  intro p e s m args below meth c s₁ B hml hv
  obtain ⟨rfl, hsz, hP, hD0, hX⟩ := hv
  have hx := B.exec
  have hb := B.bytes
  have hr := B.returns
  have hts := atoms_spec (ws := wsX5_colours) B.pre
  have hown : s.vm.findClass RX5 = some m.cls := findClass_of_methodNamed B.named
  have hlocks := B.notSynchronized
  subst hsz
  have hD := hD0.self (sz := s.heap.size)
  generalize hAe : va_A [(m0, .inr (5, [.int 0, .int 0, .ref kO, .ref lO, .int 0, .int 0, .int 0, .ref sC, .ref sW, .ref sD, .int 0, .ref pG, .int 0, .int 0, .ref wO, .ref fO, .ref mO, .ref cO, .long 0, .ref th, .int 0, .int 0, .int 0, .int 0, .ref kK, .ref kL, .ref kC, .ref kW, .ref kD, .long hh]))] s.heap.size = A at hD hX ⊢
  have hA : ∀ q : Nat, s.heap.size ≤ q → A q := fun q h => by rw [← hAe]; exact Or.inr h
  obtain ⟨H, hH⟩ : ∃ H : Heap, H = s.heap := ⟨_, rfl⟩
  have hS : va_S A s.heap H [] := hH ▸ va_S.rf
  have hK := hX.1
  have hP : va_P D vwCl [(m0, .inr (5, [.int 0, .int 0, .ref kO, .ref lO, .int 0, .int 0, .int 0, .ref sC, .ref sW, .ref sD, .int 0, .ref pG, .int 0, .int 0, .ref wO, .ref fO, .ref mO, .ref cO, .long 0, .ref th, .int 0, .int 0, .int 0, .int 0, .ref kK, .ref kL, .ref kC, .ref kW, .ref kD, .long hh]))] H := hH ▸ hP
  rw [← hH]
  have hw_X5 : ∀ w ∈ wsX50, w ∈ wsX5_colours := by decide +kernel
  have f_88 := hts (.fieldLink RX5 88 "CubeTowerModel" "cubes" "I") (by decide +kernel)
  have hl := lv_entry ([.ref m0]) (n := 4) (Nat.le_of_ble_eq_true rfl)
  rw [lg_entry_eq]
  generalize (lg_sl ([.ref m0]) ++ List.replicate (4 - (lg_sl ([.ref m0])).length) Slot.unset).toArray = ls at hl ⊢
  have hl : lv_has ls 4 [(0, .ref m0)] := hl
  refine lv_iconst (v := 0) hx hb dX5_colours_0 (by decide) ?_
  refine lv_istore_n (lv' := [(1, .int 0), (0, .ref m0)]) hx hb dX5_colours_1 rfl hl (by decide) rfl (fun ls hl => ?_)
  refine lv_iconst (v := 0) hx hb dX5_colours_2 (by decide) ?_
  refine lv_istore_n (lv' := [(2, .int 0), (1, .int 0), (0, .ref m0)]) hx hb dX5_colours_3 rfl hl (by decide) rfl (fun ls hl => ?_)
  refine lv_iload_n hx hb dX5_colours_4 rfl (lv_at hl 0 rfl) ?_
  refine lv_aload_n hx hb dX5_colours_5 rfl (lv_at hl 2 rfl) ?_
  refine va_get (D := D) (ci := 5) (v := .int 0) (C := RX5) (T := TX5) (N := 30) hx hb hts hw_X5 hown hK hP 0 rfl rfl 1 (by decide) f_88 (fun _ h9 => h9) rfl dX5_colours_6 ?_
  refine lv_icmp_ge (tgt := 47) hx hb dX5_colours_9 (by decide) (fun c_9 => ?_) (fun c_9 => ?_)
  · refine lv_iload_n hx hb dX5_colours_47 rfl (lv_at hl 1 rfl) ?_
    refine kc_i (wc := []) (wr := [(m0, .inr (5, [.int 0, .int 0, .ref kO, .ref lO, .int 0, .int 0, .int 0, .ref sC, .ref sW, .ref sD, .int 0, .ref pG, .int 0, .int 0, .ref wO, .ref fO, .ref mO, .ref cO, .long 0, .ref th, .int 0, .int 0, .int 0, .int 0, .ref kK, .ref kL, .ref kC, .ref kW, .ref kD, .long hh]))]) (va_runS (As := [.int 0]) (rest := []) ⟨hx, hb, hml, hown, hts⟩ (c_X5_size l D cy H.size  ) (va_cwS 1 hts gX5_colours_X5_size rfl rfl rfl (by decide +kernel) ⟨Nat.le_of_ble_eq_true rfl, Nat.le_of_ble_eq_true rfl⟩) (cpre_S (wc := []) hX hP hD hS hA [] (by decide +kernel) rfl) rfl rfl hl.1 rfl (lv_room (Nat.le_of_ble_eq_true rfl)) dX5_colours_48 ⟨Nat.le_of_ble_eq_true rfl, Nat.le_of_ble_eq_true rfl⟩) hP hD hS hA [] [0] rfl rfl (by decide +kernel) (by decide +kernel) (fun rl u1 H locs hw hP hD hS => ?_)
    obtain ⟨hu, hrl⟩ := hw
    subst hu
    have hP : va_P D vwCl [(m0, .inr (5, [.int 0, .int 0, .ref kO, .ref lO, .int 0, .int 0, .int 0, .ref sC, .ref sW, .ref sD, .int 0, .ref pG, .int 0, .int 0, .ref wO, .ref fO, .ref mO, .ref cO, .long 0, .ref th, .int 0, .int 0, .int 0, .int 0, .ref kK, .ref kL, .ref kC, .ref kW, .ref kD, .long hh]))] H := hP
    have hD : va_D A [(m0, .inr (5, [.int 0, .int 0, .ref kO, .ref lO, .int 0, .int 0, .int 0, .ref sC, .ref sW, .ref sD, .int 0, .ref pG, .int 0, .int 0, .ref wO, .ref fO, .ref mO, .ref cO, .long 0, .ref th, .int 0, .int 0, .int 0, .int 0, .ref kK, .ref kL, .ref kC, .ref kW, .ref kD, .long hh]))] := hD
    subst hrl
    have hP9 := hP.sub (ws' := [(m0, .inr (5, [.int 0, .int 0, .ref kO, .ref lO, .int 0, .int 0, .int 0, .ref sC, .ref sW, .ref sD, .int 0, .ref pG, .int 0, .int 0, .ref wO, .ref fO, .ref mO, .ref cO, .long 0, .ref th, .int 0, .int 0, .int 0, .int 0, .ref kK, .ref kL, .ref kC, .ref kW, .ref kD, .long hh]))]) [0] rfl
    have hD9 := hD.sub (ws' := [(m0, .inr (5, [.int 0, .int 0, .ref kO, .ref lO, .int 0, .int 0, .int 0, .ref sC, .ref sW, .ref sD, .int 0, .ref pG, .int 0, .int 0, .ref wO, .ref fO, .ref mO, .ref cO, .long 0, .ref th, .int 0, .int 0, .int 0, .int 0, .ref kK, .ref kL, .ref kC, .ref kW, .ref kD, .long hh]))]) [0] (by decide +kernel) rfl
    exact W.iret (v := 0) hx hb hr (fun t9 ht9 hW9 => ⟨⟨0, [(m0, .inr (5, [.int 0, .int 0, .ref kO, .ref lO, .int 0, .int 0, .int 0, .ref sC, .ref sW, .ref sD, .int 0, .ref pG, .int 0, .int 0, .ref wO, .ref fO, .ref mO, .ref cO, .long 0, .ref th, .int 0, .int 0, .int 0, .int 0, .ref kK, .ref kL, .ref kC, .ref kW, .ref kD, .long hh]))], rfl, ⟨rfl, rfl⟩, by rw [ht9]; exact hP9, hD9⟩, hS.F ht9⟩) hS.2.2 dX5_colours_51
  · exact absurd c_9 (by decide)
def q_X5_howMany (cy : Nat → ClassId) (m0 : Nat) (kO : Nat) (lO : Nat) (sC : Nat) (sW : Nat) (sD : Nat) (pG : Nat) (wO : Nat) (fO : Nat) (mO : Nat) (cO : Nat) (th : Nat) (kK : Nat) (kL : Nat) (kC : Nat) (kW : Nat) (kD : Nat) (hh : Int64) (w : Int32) : Int32 → va_W → Prop := fun (r : Int32) (u : va_W) => u = [(m0, .inr (5, [.int 0, .int 0, .ref kO, .ref lO, .int 0, .int 0, .int 0, .ref sC, .ref sW, .ref sD, .int 0, .ref pG, .int 0, .int 0, .ref wO, .ref fO, .ref mO, .ref cO, .long 0, .ref th, .int 0, .int 0, .int 0, .int 0, .ref kK, .ref kL, .ref kC, .ref kW, .ref kD, .long hh]))] ∧ r = (if w.toInt < 0 ∨ 8 < w.toInt then -102 else 0)
set_option maxHeartbeats 4000000 in
set_option maxRecDepth 100000 in
theorem c_X5_howMany (l : Launch) (D : va_G) (cy : Nat → ClassId) (zz : Nat) (m0 : Nat) (kO : Nat) (lO : Nat) (sC : Nat) (sW : Nat) (sD : Nat) (pG : Nat) (wO : Nat) (fO : Nat) (mO : Nat) (cO : Nat) (th : Nat) (kK : Nat) (kL : Nat) (kC : Nat) (kW : Nat) (kD : Nat) (hh : Int64) (w : Int32) : Met l yX5_howMany wsX5_howMany ({ frames := 2, cells := 0, slots := 0, locals := 45 } : Room) (va_Pc [.ref m0, .int w] (cpre D cy [(m0, .inr (5, [.int 0, .int 0, .ref kO, .ref lO, .int 0, .int 0, .int 0, .ref sC, .ref sW, .ref sD, .int 0, .ref pG, .int 0, .int 0, .ref wO, .ref fO, .ref mO, .ref cO, .long 0, .ref th, .int 0, .int 0, .int 0, .int 0, .ref kK, .ref kL, .ref kC, .ref kW, .ref kD, .long hh]))] zz)) (va_Qi (q_X5_howMany cy m0 kO lO sC sW sD pG wO fO mO cO th kK kL kC kW kD hh w) (cpost D (va_A [(m0, .inr (5, [.int 0, .int 0, .ref kO, .ref lO, .int 0, .int 0, .int 0, .ref sC, .ref sW, .ref sD, .int 0, .ref pG, .int 0, .int 0, .ref wO, .ref fO, .ref mO, .ref cO, .long 0, .ref th, .int 0, .int 0, .int 0, .int 0, .ref kK, .ref kL, .ref kC, .ref kW, .ref kD, .long hh]))] zz)) (va_A [(m0, .inr (5, [.int 0, .int 0, .ref kO, .ref lO, .int 0, .int 0, .int 0, .ref sC, .ref sW, .ref sD, .int 0, .ref pG, .int 0, .int 0, .ref wO, .ref fO, .ref mO, .ref cO, .long 0, .ref th, .int 0, .int 0, .int 0, .int 0, .ref kK, .ref kL, .ref kC, .ref kW, .ref kD, .long hh]))] zz)) 0 0 (va_A [(m0, .inr (5, [.int 0, .int 0, .ref kO, .ref lO, .int 0, .int 0, .int 0, .ref sC, .ref sW, .ref sD, .int 0, .ref pG, .int 0, .int 0, .ref wO, .ref fO, .ref mO, .ref cO, .long 0, .ref th, .int 0, .int 0, .int 0, .int 0, .ref kK, .ref kL, .ref kC, .ref kW, .ref kD, .long hh]))] zz) := by
  refine Met.ofW (cc := cX5_howMany) (maxL := 2) (ret := (some .int)) (by decide) rfl ?_
  intro p e s m args below meth c s₁ B hml hv
  obtain ⟨rfl, hsz, hP, hD0, hX⟩ := hv
  have hx := B.exec
  have hb := B.bytes
  have hr := B.returns
  have hts := atoms_spec (ws := wsX5_howMany) B.pre
  have hown : s.vm.findClass RX5 = some m.cls := findClass_of_methodNamed B.named
  have hlocks := B.notSynchronized
  subst hsz
  have hD := hD0.self (sz := s.heap.size)
  generalize hAe : va_A [(m0, .inr (5, [.int 0, .int 0, .ref kO, .ref lO, .int 0, .int 0, .int 0, .ref sC, .ref sW, .ref sD, .int 0, .ref pG, .int 0, .int 0, .ref wO, .ref fO, .ref mO, .ref cO, .long 0, .ref th, .int 0, .int 0, .int 0, .int 0, .ref kK, .ref kL, .ref kC, .ref kW, .ref kD, .long hh]))] s.heap.size = A at hD hX ⊢
  have hA : ∀ q : Nat, s.heap.size ≤ q → A q := fun q h => by rw [← hAe]; exact Or.inr h
  obtain ⟨H, hH⟩ : ∃ H : Heap, H = s.heap := ⟨_, rfl⟩
  have hS : va_S A s.heap H [] := hH ▸ va_S.rf
  have hK := hX.1
  have hP : va_P D vwCl [(m0, .inr (5, [.int 0, .int 0, .ref kO, .ref lO, .int 0, .int 0, .int 0, .ref sC, .ref sW, .ref sD, .int 0, .ref pG, .int 0, .int 0, .ref wO, .ref fO, .ref mO, .ref cO, .long 0, .ref th, .int 0, .int 0, .int 0, .int 0, .ref kK, .ref kL, .ref kC, .ref kW, .ref kD, .long hh]))] H := hH ▸ hP
  rw [← hH]
  have hw_X5 : ∀ w ∈ wsX50, w ∈ wsX5_howMany := by decide +kernel
  have f_88 := hts (.fieldLink RX5 88 "CubeTowerModel" "cubes" "I") (by decide +kernel)
  have f_91 := hts (.fieldLink RX5 91 "CubeTowerModel" "turns" "I") (by decide +kernel)
  have f_97 := hts (.fieldLink RX5 97 "CubeTowerModel" "seen" "I") (by decide +kernel)
  have f_63 := hts (.fieldLink RX5 63 "CubeTowerModel" "pageLength" "I") (by decide +kernel)
  have f_94 := hts (.fieldLink RX5 94 "CubeTowerModel" "towers" "I") (by decide +kernel)
  have f_216 := hts (.fieldLink RX5 216 "CubeTowerModel" "asks" "I") (by decide +kernel)
  have hl := lv_entry ([.ref m0, .int w]) (n := 2) (Nat.le_of_ble_eq_true rfl)
  rw [lg_entry_eq]
  generalize (lg_sl ([.ref m0, .int w]) ++ List.replicate (2 - (lg_sl ([.ref m0, .int w])).length) Slot.unset).toArray = ls at hl ⊢
  have hl : lv_has ls 2 [(0, .ref m0), (1, .int w)] := hl
  refine lv_iload_n hx hb dX5_howMany_0 rfl (lv_at hl 1 rfl) ?_
  by_cases c_1 : w.toInt < 0 ∨ 8 < w.toInt
  · refine lv_tableOut (tgt := 97) hx hb dX5_howMany_1 c_1 (by decide) ?_
    refine lv_bipush (v := (-102)) hx hb dX5_howMany_97 (by decide) ?_
    have hP9 := hP.sub (ws' := [(m0, .inr (5, [.int 0, .int 0, .ref kO, .ref lO, .int 0, .int 0, .int 0, .ref sC, .ref sW, .ref sD, .int 0, .ref pG, .int 0, .int 0, .ref wO, .ref fO, .ref mO, .ref cO, .long 0, .ref th, .int 0, .int 0, .int 0, .int 0, .ref kK, .ref kL, .ref kC, .ref kW, .ref kD, .long hh]))]) [0] rfl
    have hD9 := hD.sub (ws' := [(m0, .inr (5, [.int 0, .int 0, .ref kO, .ref lO, .int 0, .int 0, .int 0, .ref sC, .ref sW, .ref sD, .int 0, .ref pG, .int 0, .int 0, .ref wO, .ref fO, .ref mO, .ref cO, .long 0, .ref th, .int 0, .int 0, .int 0, .int 0, .ref kK, .ref kL, .ref kC, .ref kW, .ref kD, .long hh]))]) [0] (by decide +kernel) rfl
    exact W.iret (v := (-102)) hx hb hr (fun t9 ht9 hW9 => ⟨⟨(-102), [(m0, .inr (5, [.int 0, .int 0, .ref kO, .ref lO, .int 0, .int 0, .int 0, .ref sC, .ref sW, .ref sD, .int 0, .ref pG, .int 0, .int 0, .ref wO, .ref fO, .ref mO, .ref cO, .long 0, .ref th, .int 0, .int 0, .int 0, .int 0, .ref kK, .ref kL, .ref kC, .ref kW, .ref kD, .long hh]))], rfl, ⟨rfl, (if_pos c_1).symm⟩, by rw [ht9]; exact hP9, hD9⟩, hS.F ht9⟩) hS.2.2 dX5_howMany_99
  · rcases (show w = 0 ∨ w = 1 ∨ w = 2 ∨ w = 3 ∨ w = 4 ∨ w = 5 ∨ w = 6 ∨ w = 7 ∨ w = 8 from cs9 c_1) with rfl | rfl | rfl | rfl | rfl | rfl | rfl | rfl | rfl
    · refine lv_tableIn (off := 51) (tgt := 52) hx hb dX5_howMany_1 (by decide) (by decide) rfl (by decide) ?_
      refine lv_aload_n hx hb dX5_howMany_52 rfl (lv_at hl 0 rfl) ?_
      refine va_get (D := D) (ci := 5) (v := .int 0) (C := RX5) (T := TX5) (N := 30) hx hb hts hw_X5 hown hK hP 0 rfl rfl 1 (by decide) f_88 (fun _ h9 => h9) rfl dX5_howMany_53 ?_
      have hP9 := hP.sub (ws' := [(m0, .inr (5, [.int 0, .int 0, .ref kO, .ref lO, .int 0, .int 0, .int 0, .ref sC, .ref sW, .ref sD, .int 0, .ref pG, .int 0, .int 0, .ref wO, .ref fO, .ref mO, .ref cO, .long 0, .ref th, .int 0, .int 0, .int 0, .int 0, .ref kK, .ref kL, .ref kC, .ref kW, .ref kD, .long hh]))]) [0] rfl
      have hD9 := hD.sub (ws' := [(m0, .inr (5, [.int 0, .int 0, .ref kO, .ref lO, .int 0, .int 0, .int 0, .ref sC, .ref sW, .ref sD, .int 0, .ref pG, .int 0, .int 0, .ref wO, .ref fO, .ref mO, .ref cO, .long 0, .ref th, .int 0, .int 0, .int 0, .int 0, .ref kK, .ref kL, .ref kC, .ref kW, .ref kD, .long hh]))]) [0] (by decide +kernel) rfl
      exact W.iret (v := 0) hx hb hr (fun t9 ht9 hW9 => ⟨⟨0, [(m0, .inr (5, [.int 0, .int 0, .ref kO, .ref lO, .int 0, .int 0, .int 0, .ref sC, .ref sW, .ref sD, .int 0, .ref pG, .int 0, .int 0, .ref wO, .ref fO, .ref mO, .ref cO, .long 0, .ref th, .int 0, .int 0, .int 0, .int 0, .ref kK, .ref kL, .ref kC, .ref kW, .ref kD, .long hh]))], rfl, ⟨rfl, (by decide)⟩, by rw [ht9]; exact hP9, hD9⟩, hS.F ht9⟩) hS.2.2 dX5_howMany_56
    · refine lv_tableIn (off := 56) (tgt := 57) hx hb dX5_howMany_1 (by decide) (by decide) rfl (by decide) ?_
      refine lv_aload_n hx hb dX5_howMany_57 rfl (lv_at hl 0 rfl) ?_
      refine kc_i (wc := [(m0, .inr (5, [.int 0, .int 0, .ref kO, .ref lO, .int 0, .int 0, .int 0, .ref sC, .ref sW, .ref sD, .int 0, .ref pG, .int 0, .int 0, .ref wO, .ref fO, .ref mO, .ref cO, .long 0, .ref th, .int 0, .int 0, .int 0, .int 0, .ref kK, .ref kL, .ref kC, .ref kW, .ref kD, .long hh]))]) (wr := []) (va_runV (As := []) (rest := []) ⟨hx, hb, hml, hown, hts⟩ (e_X5_clashes l D cy H.size m0 kO lO sC sW sD pG wO fO mO cO th kK kL kC kW kD hh ) (cwV 0 hts gX5_howMany_X5_clashes rfl rfl rfl (by decide +kernel) ⟨Nat.le_of_ble_eq_true rfl, Nat.le_of_ble_eq_true rfl⟩) (cpre_V (wc := [(m0, .inr (5, [.int 0, .int 0, .ref kO, .ref lO, .int 0, .int 0, .int 0, .ref sC, .ref sW, .ref sD, .int 0, .ref pG, .int 0, .int 0, .ref wO, .ref fO, .ref mO, .ref cO, .long 0, .ref th, .int 0, .int 0, .int 0, .int 0, .ref kK, .ref kL, .ref kC, .ref kW, .ref kD, .long hh]))]) 0 5 rfl rfl hX hP hD hS hA [0] (by decide +kernel) rfl) rfl rfl hl.1 rfl (lv_room (Nat.le_of_ble_eq_true rfl)) dX5_howMany_58 ⟨Nat.le_of_ble_eq_true rfl, Nat.le_of_ble_eq_true rfl⟩) hP hD hS hA [0] [] rfl rfl (by decide +kernel) (by decide +kernel) (fun rl u1 H locs hw hP hD hS => ?_)
      obtain ⟨hu, hrl⟩ := hw
      subst hu
      have hP : va_P D vwCl [(m0, .inr (5, [.int 0, .int 0, .ref kO, .ref lO, .int 0, .int 0, .int 0, .ref sC, .ref sW, .ref sD, .int 0, .ref pG, .int 0, .int 0, .ref wO, .ref fO, .ref mO, .ref cO, .long 0, .ref th, .int 0, .int 0, .int 0, .int 0, .ref kK, .ref kL, .ref kC, .ref kW, .ref kD, .long hh]))] H := hP
      have hD : va_D A [(m0, .inr (5, [.int 0, .int 0, .ref kO, .ref lO, .int 0, .int 0, .int 0, .ref sC, .ref sW, .ref sD, .int 0, .ref pG, .int 0, .int 0, .ref wO, .ref fO, .ref mO, .ref cO, .long 0, .ref th, .int 0, .int 0, .int 0, .int 0, .ref kK, .ref kL, .ref kC, .ref kW, .ref kD, .long hh]))] := hD
      subst hrl
      have hP9 := hP.sub (ws' := [(m0, .inr (5, [.int 0, .int 0, .ref kO, .ref lO, .int 0, .int 0, .int 0, .ref sC, .ref sW, .ref sD, .int 0, .ref pG, .int 0, .int 0, .ref wO, .ref fO, .ref mO, .ref cO, .long 0, .ref th, .int 0, .int 0, .int 0, .int 0, .ref kK, .ref kL, .ref kC, .ref kW, .ref kD, .long hh]))]) [0] rfl
      have hD9 := hD.sub (ws' := [(m0, .inr (5, [.int 0, .int 0, .ref kO, .ref lO, .int 0, .int 0, .int 0, .ref sC, .ref sW, .ref sD, .int 0, .ref pG, .int 0, .int 0, .ref wO, .ref fO, .ref mO, .ref cO, .long 0, .ref th, .int 0, .int 0, .int 0, .int 0, .ref kK, .ref kL, .ref kC, .ref kW, .ref kD, .long hh]))]) [0] (by decide +kernel) rfl
      exact W.iret (v := 0) hx hb hr (fun t9 ht9 hW9 => ⟨⟨0, [(m0, .inr (5, [.int 0, .int 0, .ref kO, .ref lO, .int 0, .int 0, .int 0, .ref sC, .ref sW, .ref sD, .int 0, .ref pG, .int 0, .int 0, .ref wO, .ref fO, .ref mO, .ref cO, .long 0, .ref th, .int 0, .int 0, .int 0, .int 0, .ref kK, .ref kL, .ref kC, .ref kW, .ref kD, .long hh]))], rfl, ⟨rfl, (by decide)⟩, by rw [ht9]; exact hP9, hD9⟩, hS.F ht9⟩) hS.2.2 dX5_howMany_61
    · refine lv_tableIn (off := 61) (tgt := 62) hx hb dX5_howMany_1 (by decide) (by decide) rfl (by decide) ?_
      refine lv_aload_n hx hb dX5_howMany_62 rfl (lv_at hl 0 rfl) ?_
      refine kc_i (wc := [(m0, .inr (5, [.int 0, .int 0, .ref kO, .ref lO, .int 0, .int 0, .int 0, .ref sC, .ref sW, .ref sD, .int 0, .ref pG, .int 0, .int 0, .ref wO, .ref fO, .ref mO, .ref cO, .long 0, .ref th, .int 0, .int 0, .int 0, .int 0, .ref kK, .ref kL, .ref kC, .ref kW, .ref kD, .long hh]))]) (wr := []) (va_runV (As := []) (rest := []) ⟨hx, hb, hml, hown, hts⟩ (e_X5_goodWalls l D cy H.size m0 kO lO sC sW sD pG wO fO mO cO th kK kL kC kW kD hh ) (cwV 0 hts gX5_howMany_X5_goodWalls rfl rfl rfl (by decide +kernel) ⟨Nat.le_of_ble_eq_true rfl, Nat.le_of_ble_eq_true rfl⟩) (cpre_V (wc := [(m0, .inr (5, [.int 0, .int 0, .ref kO, .ref lO, .int 0, .int 0, .int 0, .ref sC, .ref sW, .ref sD, .int 0, .ref pG, .int 0, .int 0, .ref wO, .ref fO, .ref mO, .ref cO, .long 0, .ref th, .int 0, .int 0, .int 0, .int 0, .ref kK, .ref kL, .ref kC, .ref kW, .ref kD, .long hh]))]) 0 5 rfl rfl hX hP hD hS hA [0] (by decide +kernel) rfl) rfl rfl hl.1 rfl (lv_room (Nat.le_of_ble_eq_true rfl)) dX5_howMany_63 ⟨Nat.le_of_ble_eq_true rfl, Nat.le_of_ble_eq_true rfl⟩) hP hD hS hA [0] [] rfl rfl (by decide +kernel) (by decide +kernel) (fun rl u2 H locs hw hP hD hS => ?_)
      obtain ⟨hu, hrl⟩ := hw
      subst hu
      have hP : va_P D vwCl [(m0, .inr (5, [.int 0, .int 0, .ref kO, .ref lO, .int 0, .int 0, .int 0, .ref sC, .ref sW, .ref sD, .int 0, .ref pG, .int 0, .int 0, .ref wO, .ref fO, .ref mO, .ref cO, .long 0, .ref th, .int 0, .int 0, .int 0, .int 0, .ref kK, .ref kL, .ref kC, .ref kW, .ref kD, .long hh]))] H := hP
      have hD : va_D A [(m0, .inr (5, [.int 0, .int 0, .ref kO, .ref lO, .int 0, .int 0, .int 0, .ref sC, .ref sW, .ref sD, .int 0, .ref pG, .int 0, .int 0, .ref wO, .ref fO, .ref mO, .ref cO, .long 0, .ref th, .int 0, .int 0, .int 0, .int 0, .ref kK, .ref kL, .ref kC, .ref kW, .ref kD, .long hh]))] := hD
      subst hrl
      have hP9 := hP.sub (ws' := [(m0, .inr (5, [.int 0, .int 0, .ref kO, .ref lO, .int 0, .int 0, .int 0, .ref sC, .ref sW, .ref sD, .int 0, .ref pG, .int 0, .int 0, .ref wO, .ref fO, .ref mO, .ref cO, .long 0, .ref th, .int 0, .int 0, .int 0, .int 0, .ref kK, .ref kL, .ref kC, .ref kW, .ref kD, .long hh]))]) [0] rfl
      have hD9 := hD.sub (ws' := [(m0, .inr (5, [.int 0, .int 0, .ref kO, .ref lO, .int 0, .int 0, .int 0, .ref sC, .ref sW, .ref sD, .int 0, .ref pG, .int 0, .int 0, .ref wO, .ref fO, .ref mO, .ref cO, .long 0, .ref th, .int 0, .int 0, .int 0, .int 0, .ref kK, .ref kL, .ref kC, .ref kW, .ref kD, .long hh]))]) [0] (by decide +kernel) rfl
      exact W.iret (v := 0) hx hb hr (fun t9 ht9 hW9 => ⟨⟨0, [(m0, .inr (5, [.int 0, .int 0, .ref kO, .ref lO, .int 0, .int 0, .int 0, .ref sC, .ref sW, .ref sD, .int 0, .ref pG, .int 0, .int 0, .ref wO, .ref fO, .ref mO, .ref cO, .long 0, .ref th, .int 0, .int 0, .int 0, .int 0, .ref kK, .ref kL, .ref kC, .ref kW, .ref kD, .long hh]))], rfl, ⟨rfl, (by decide)⟩, by rw [ht9]; exact hP9, hD9⟩, hS.F ht9⟩) hS.2.2 dX5_howMany_66
    · refine lv_tableIn (off := 66) (tgt := 67) hx hb dX5_howMany_1 (by decide) (by decide) rfl (by decide) ?_
      refine lv_aload_n hx hb dX5_howMany_67 rfl (lv_at hl 0 rfl) ?_
      refine kc_i (wc := [(m0, .inr (5, [.int 0, .int 0, .ref kO, .ref lO, .int 0, .int 0, .int 0, .ref sC, .ref sW, .ref sD, .int 0, .ref pG, .int 0, .int 0, .ref wO, .ref fO, .ref mO, .ref cO, .long 0, .ref th, .int 0, .int 0, .int 0, .int 0, .ref kK, .ref kL, .ref kC, .ref kW, .ref kD, .long hh]))]) (wr := []) (va_runV (As := []) (rest := []) ⟨hx, hb, hml, hown, hts⟩ (e_X5_colours l D cy H.size m0 kO lO sC sW sD pG wO fO mO cO th kK kL kC kW kD hh ) (cwV 0 hts gX5_howMany_X5_colours rfl rfl rfl (by decide +kernel) ⟨Nat.le_of_ble_eq_true rfl, Nat.le_of_ble_eq_true rfl⟩) (cpre_V (wc := [(m0, .inr (5, [.int 0, .int 0, .ref kO, .ref lO, .int 0, .int 0, .int 0, .ref sC, .ref sW, .ref sD, .int 0, .ref pG, .int 0, .int 0, .ref wO, .ref fO, .ref mO, .ref cO, .long 0, .ref th, .int 0, .int 0, .int 0, .int 0, .ref kK, .ref kL, .ref kC, .ref kW, .ref kD, .long hh]))]) 0 5 rfl rfl hX hP hD hS hA [0] (by decide +kernel) rfl) rfl rfl hl.1 rfl (lv_room (Nat.le_of_ble_eq_true rfl)) dX5_howMany_68 ⟨Nat.le_of_ble_eq_true rfl, Nat.le_of_ble_eq_true rfl⟩) hP hD hS hA [0] [] rfl rfl (by decide +kernel) (by decide +kernel) (fun rl u3 H locs hw hP hD hS => ?_)
      obtain ⟨hu, hrl⟩ := hw
      subst hu
      have hP : va_P D vwCl [(m0, .inr (5, [.int 0, .int 0, .ref kO, .ref lO, .int 0, .int 0, .int 0, .ref sC, .ref sW, .ref sD, .int 0, .ref pG, .int 0, .int 0, .ref wO, .ref fO, .ref mO, .ref cO, .long 0, .ref th, .int 0, .int 0, .int 0, .int 0, .ref kK, .ref kL, .ref kC, .ref kW, .ref kD, .long hh]))] H := hP
      have hD : va_D A [(m0, .inr (5, [.int 0, .int 0, .ref kO, .ref lO, .int 0, .int 0, .int 0, .ref sC, .ref sW, .ref sD, .int 0, .ref pG, .int 0, .int 0, .ref wO, .ref fO, .ref mO, .ref cO, .long 0, .ref th, .int 0, .int 0, .int 0, .int 0, .ref kK, .ref kL, .ref kC, .ref kW, .ref kD, .long hh]))] := hD
      subst hrl
      have hP9 := hP.sub (ws' := [(m0, .inr (5, [.int 0, .int 0, .ref kO, .ref lO, .int 0, .int 0, .int 0, .ref sC, .ref sW, .ref sD, .int 0, .ref pG, .int 0, .int 0, .ref wO, .ref fO, .ref mO, .ref cO, .long 0, .ref th, .int 0, .int 0, .int 0, .int 0, .ref kK, .ref kL, .ref kC, .ref kW, .ref kD, .long hh]))]) [0] rfl
      have hD9 := hD.sub (ws' := [(m0, .inr (5, [.int 0, .int 0, .ref kO, .ref lO, .int 0, .int 0, .int 0, .ref sC, .ref sW, .ref sD, .int 0, .ref pG, .int 0, .int 0, .ref wO, .ref fO, .ref mO, .ref cO, .long 0, .ref th, .int 0, .int 0, .int 0, .int 0, .ref kK, .ref kL, .ref kC, .ref kW, .ref kD, .long hh]))]) [0] (by decide +kernel) rfl
      exact W.iret (v := 0) hx hb hr (fun t9 ht9 hW9 => ⟨⟨0, [(m0, .inr (5, [.int 0, .int 0, .ref kO, .ref lO, .int 0, .int 0, .int 0, .ref sC, .ref sW, .ref sD, .int 0, .ref pG, .int 0, .int 0, .ref wO, .ref fO, .ref mO, .ref cO, .long 0, .ref th, .int 0, .int 0, .int 0, .int 0, .ref kK, .ref kL, .ref kC, .ref kW, .ref kD, .long hh]))], rfl, ⟨rfl, (by decide)⟩, by rw [ht9]; exact hP9, hD9⟩, hS.F ht9⟩) hS.2.2 dX5_howMany_71
    · refine lv_tableIn (off := 71) (tgt := 72) hx hb dX5_howMany_1 (by decide) (by decide) rfl (by decide) ?_
      refine lv_aload_n hx hb dX5_howMany_72 rfl (lv_at hl 0 rfl) ?_
      refine va_get (D := D) (ci := 5) (v := .int 0) (C := RX5) (T := TX5) (N := 30) hx hb hts hw_X5 hown hK hP 0 rfl rfl 4 (by decide) f_91 (fun _ h9 => h9) rfl dX5_howMany_73 ?_
      have hP9 := hP.sub (ws' := [(m0, .inr (5, [.int 0, .int 0, .ref kO, .ref lO, .int 0, .int 0, .int 0, .ref sC, .ref sW, .ref sD, .int 0, .ref pG, .int 0, .int 0, .ref wO, .ref fO, .ref mO, .ref cO, .long 0, .ref th, .int 0, .int 0, .int 0, .int 0, .ref kK, .ref kL, .ref kC, .ref kW, .ref kD, .long hh]))]) [0] rfl
      have hD9 := hD.sub (ws' := [(m0, .inr (5, [.int 0, .int 0, .ref kO, .ref lO, .int 0, .int 0, .int 0, .ref sC, .ref sW, .ref sD, .int 0, .ref pG, .int 0, .int 0, .ref wO, .ref fO, .ref mO, .ref cO, .long 0, .ref th, .int 0, .int 0, .int 0, .int 0, .ref kK, .ref kL, .ref kC, .ref kW, .ref kD, .long hh]))]) [0] (by decide +kernel) rfl
      exact W.iret (v := 0) hx hb hr (fun t9 ht9 hW9 => ⟨⟨0, [(m0, .inr (5, [.int 0, .int 0, .ref kO, .ref lO, .int 0, .int 0, .int 0, .ref sC, .ref sW, .ref sD, .int 0, .ref pG, .int 0, .int 0, .ref wO, .ref fO, .ref mO, .ref cO, .long 0, .ref th, .int 0, .int 0, .int 0, .int 0, .ref kK, .ref kL, .ref kC, .ref kW, .ref kD, .long hh]))], rfl, ⟨rfl, (by decide)⟩, by rw [ht9]; exact hP9, hD9⟩, hS.F ht9⟩) hS.2.2 dX5_howMany_76
    · refine lv_tableIn (off := 76) (tgt := 77) hx hb dX5_howMany_1 (by decide) (by decide) rfl (by decide) ?_
      refine lv_aload_n hx hb dX5_howMany_77 rfl (lv_at hl 0 rfl) ?_
      refine va_get (D := D) (ci := 5) (v := .int 0) (C := RX5) (T := TX5) (N := 30) hx hb hts hw_X5 hown hK hP 0 rfl rfl 6 (by decide) f_97 (fun _ h9 => h9) rfl dX5_howMany_78 ?_
      have hP9 := hP.sub (ws' := [(m0, .inr (5, [.int 0, .int 0, .ref kO, .ref lO, .int 0, .int 0, .int 0, .ref sC, .ref sW, .ref sD, .int 0, .ref pG, .int 0, .int 0, .ref wO, .ref fO, .ref mO, .ref cO, .long 0, .ref th, .int 0, .int 0, .int 0, .int 0, .ref kK, .ref kL, .ref kC, .ref kW, .ref kD, .long hh]))]) [0] rfl
      have hD9 := hD.sub (ws' := [(m0, .inr (5, [.int 0, .int 0, .ref kO, .ref lO, .int 0, .int 0, .int 0, .ref sC, .ref sW, .ref sD, .int 0, .ref pG, .int 0, .int 0, .ref wO, .ref fO, .ref mO, .ref cO, .long 0, .ref th, .int 0, .int 0, .int 0, .int 0, .ref kK, .ref kL, .ref kC, .ref kW, .ref kD, .long hh]))]) [0] (by decide +kernel) rfl
      exact W.iret (v := 0) hx hb hr (fun t9 ht9 hW9 => ⟨⟨0, [(m0, .inr (5, [.int 0, .int 0, .ref kO, .ref lO, .int 0, .int 0, .int 0, .ref sC, .ref sW, .ref sD, .int 0, .ref pG, .int 0, .int 0, .ref wO, .ref fO, .ref mO, .ref cO, .long 0, .ref th, .int 0, .int 0, .int 0, .int 0, .ref kK, .ref kL, .ref kC, .ref kW, .ref kD, .long hh]))], rfl, ⟨rfl, (by decide)⟩, by rw [ht9]; exact hP9, hD9⟩, hS.F ht9⟩) hS.2.2 dX5_howMany_81
    · refine lv_tableIn (off := 81) (tgt := 82) hx hb dX5_howMany_1 (by decide) (by decide) rfl (by decide) ?_
      refine lv_aload_n hx hb dX5_howMany_82 rfl (lv_at hl 0 rfl) ?_
      refine va_get (D := D) (ci := 5) (v := .int 0) (C := RX5) (T := TX5) (N := 30) hx hb hts hw_X5 hown hK hP 0 rfl rfl 10 (by decide) f_63 (fun _ h9 => h9) rfl dX5_howMany_83 ?_
      have hP9 := hP.sub (ws' := [(m0, .inr (5, [.int 0, .int 0, .ref kO, .ref lO, .int 0, .int 0, .int 0, .ref sC, .ref sW, .ref sD, .int 0, .ref pG, .int 0, .int 0, .ref wO, .ref fO, .ref mO, .ref cO, .long 0, .ref th, .int 0, .int 0, .int 0, .int 0, .ref kK, .ref kL, .ref kC, .ref kW, .ref kD, .long hh]))]) [0] rfl
      have hD9 := hD.sub (ws' := [(m0, .inr (5, [.int 0, .int 0, .ref kO, .ref lO, .int 0, .int 0, .int 0, .ref sC, .ref sW, .ref sD, .int 0, .ref pG, .int 0, .int 0, .ref wO, .ref fO, .ref mO, .ref cO, .long 0, .ref th, .int 0, .int 0, .int 0, .int 0, .ref kK, .ref kL, .ref kC, .ref kW, .ref kD, .long hh]))]) [0] (by decide +kernel) rfl
      exact W.iret (v := 0) hx hb hr (fun t9 ht9 hW9 => ⟨⟨0, [(m0, .inr (5, [.int 0, .int 0, .ref kO, .ref lO, .int 0, .int 0, .int 0, .ref sC, .ref sW, .ref sD, .int 0, .ref pG, .int 0, .int 0, .ref wO, .ref fO, .ref mO, .ref cO, .long 0, .ref th, .int 0, .int 0, .int 0, .int 0, .ref kK, .ref kL, .ref kC, .ref kW, .ref kD, .long hh]))], rfl, ⟨rfl, (by decide)⟩, by rw [ht9]; exact hP9, hD9⟩, hS.F ht9⟩) hS.2.2 dX5_howMany_86
    · refine lv_tableIn (off := 86) (tgt := 87) hx hb dX5_howMany_1 (by decide) (by decide) rfl (by decide) ?_
      refine lv_aload_n hx hb dX5_howMany_87 rfl (lv_at hl 0 rfl) ?_
      refine va_get (D := D) (ci := 5) (v := .int 0) (C := RX5) (T := TX5) (N := 30) hx hb hts hw_X5 hown hK hP 0 rfl rfl 0 (by decide) f_94 (fun _ h9 => h9) rfl dX5_howMany_88 ?_
      have hP9 := hP.sub (ws' := [(m0, .inr (5, [.int 0, .int 0, .ref kO, .ref lO, .int 0, .int 0, .int 0, .ref sC, .ref sW, .ref sD, .int 0, .ref pG, .int 0, .int 0, .ref wO, .ref fO, .ref mO, .ref cO, .long 0, .ref th, .int 0, .int 0, .int 0, .int 0, .ref kK, .ref kL, .ref kC, .ref kW, .ref kD, .long hh]))]) [0] rfl
      have hD9 := hD.sub (ws' := [(m0, .inr (5, [.int 0, .int 0, .ref kO, .ref lO, .int 0, .int 0, .int 0, .ref sC, .ref sW, .ref sD, .int 0, .ref pG, .int 0, .int 0, .ref wO, .ref fO, .ref mO, .ref cO, .long 0, .ref th, .int 0, .int 0, .int 0, .int 0, .ref kK, .ref kL, .ref kC, .ref kW, .ref kD, .long hh]))]) [0] (by decide +kernel) rfl
      exact W.iret (v := 0) hx hb hr (fun t9 ht9 hW9 => ⟨⟨0, [(m0, .inr (5, [.int 0, .int 0, .ref kO, .ref lO, .int 0, .int 0, .int 0, .ref sC, .ref sW, .ref sD, .int 0, .ref pG, .int 0, .int 0, .ref wO, .ref fO, .ref mO, .ref cO, .long 0, .ref th, .int 0, .int 0, .int 0, .int 0, .ref kK, .ref kL, .ref kC, .ref kW, .ref kD, .long hh]))], rfl, ⟨rfl, (by decide)⟩, by rw [ht9]; exact hP9, hD9⟩, hS.F ht9⟩) hS.2.2 dX5_howMany_91
    · refine lv_tableIn (off := 91) (tgt := 92) hx hb dX5_howMany_1 (by decide) (by decide) rfl (by decide) ?_
      refine lv_aload_n hx hb dX5_howMany_92 rfl (lv_at hl 0 rfl) ?_
      refine va_get (D := D) (ci := 5) (v := .int 0) (C := RX5) (T := TX5) (N := 30) hx hb hts hw_X5 hown hK hP 0 rfl rfl 5 (by decide) f_216 (fun _ h9 => h9) rfl dX5_howMany_93 ?_
      have hP9 := hP.sub (ws' := [(m0, .inr (5, [.int 0, .int 0, .ref kO, .ref lO, .int 0, .int 0, .int 0, .ref sC, .ref sW, .ref sD, .int 0, .ref pG, .int 0, .int 0, .ref wO, .ref fO, .ref mO, .ref cO, .long 0, .ref th, .int 0, .int 0, .int 0, .int 0, .ref kK, .ref kL, .ref kC, .ref kW, .ref kD, .long hh]))]) [0] rfl
      have hD9 := hD.sub (ws' := [(m0, .inr (5, [.int 0, .int 0, .ref kO, .ref lO, .int 0, .int 0, .int 0, .ref sC, .ref sW, .ref sD, .int 0, .ref pG, .int 0, .int 0, .ref wO, .ref fO, .ref mO, .ref cO, .long 0, .ref th, .int 0, .int 0, .int 0, .int 0, .ref kK, .ref kL, .ref kC, .ref kW, .ref kD, .long hh]))]) [0] (by decide +kernel) rfl
      exact W.iret (v := 0) hx hb hr (fun t9 ht9 hW9 => ⟨⟨0, [(m0, .inr (5, [.int 0, .int 0, .ref kO, .ref lO, .int 0, .int 0, .int 0, .ref sC, .ref sW, .ref sD, .int 0, .ref pG, .int 0, .int 0, .ref wO, .ref fO, .ref mO, .ref cO, .long 0, .ref th, .int 0, .int 0, .int 0, .int 0, .ref kK, .ref kL, .ref kC, .ref kW, .ref kD, .long hh]))], rfl, ⟨rfl, (by decide)⟩, by rw [ht9]; exact hP9, hD9⟩, hS.F ht9⟩) hS.2.2 dX5_howMany_96
def q_X5_count (cy : Nat → ClassId) (m0 : Nat) (kO : Nat) (lO : Nat) (sC : Nat) (sW : Nat) (sD : Nat) (pG : Nat) (wO : Nat) (fO : Nat) (mO : Nat) (cO : Nat) (th : Nat) (kK : Nat) (kL : Nat) (kC : Nat) (kW : Nat) (kD : Nat) (hh : Int64) (w : Int32) : Int32 → va_W → Prop := fun (r : Int32) (u : va_W) => u = [(m0, .inr (5, [.int 0, .int 0, .ref kO, .ref lO, .int 0, .int 0, .int 0, .ref sC, .ref sW, .ref sD, .int 0, .ref pG, .int 0, .int 0, .ref wO, .ref fO, .ref mO, .ref cO, .long 0, .ref th, .int 0, .int 0, .int 0, .int 0, .ref kK, .ref kL, .ref kC, .ref kW, .ref kD, .long hh]))] ∧ r = (if w.toInt < 0 ∨ 8 < w.toInt then -102 else 0)
set_option maxHeartbeats 4000000 in
set_option maxRecDepth 100000 in
theorem c_X5_count (l : Launch) (D : va_G) (cy : Nat → ClassId) (zz : Nat) (m0 : Nat) (kO : Nat) (lO : Nat) (sC : Nat) (sW : Nat) (sD : Nat) (pG : Nat) (wO : Nat) (fO : Nat) (mO : Nat) (cO : Nat) (th : Nat) (kK : Nat) (kL : Nat) (kC : Nat) (kW : Nat) (kD : Nat) (hh : Int64) (w : Int32) : Met l yX5_count wsX5_count ({ frames := 3, cells := 0, slots := 0, locals := 66 } : Room) (va_Pc [.ref m0, .int w] (cpre D cy [(m0, .inr (5, [.int 0, .int 0, .ref kO, .ref lO, .int 0, .int 0, .int 0, .ref sC, .ref sW, .ref sD, .int 0, .ref pG, .int 0, .int 0, .ref wO, .ref fO, .ref mO, .ref cO, .long 0, .ref th, .int 0, .int 0, .int 0, .int 0, .ref kK, .ref kL, .ref kC, .ref kW, .ref kD, .long hh]))] zz)) (va_Qi (q_X5_count cy m0 kO lO sC sW sD pG wO fO mO cO th kK kL kC kW kD hh w) (cpost D (va_A [(m0, .inr (5, [.int 0, .int 0, .ref kO, .ref lO, .int 0, .int 0, .int 0, .ref sC, .ref sW, .ref sD, .int 0, .ref pG, .int 0, .int 0, .ref wO, .ref fO, .ref mO, .ref cO, .long 0, .ref th, .int 0, .int 0, .int 0, .int 0, .ref kK, .ref kL, .ref kC, .ref kW, .ref kD, .long hh]))] zz)) (va_A [(m0, .inr (5, [.int 0, .int 0, .ref kO, .ref lO, .int 0, .int 0, .int 0, .ref sC, .ref sW, .ref sD, .int 0, .ref pG, .int 0, .int 0, .ref wO, .ref fO, .ref mO, .ref cO, .long 0, .ref th, .int 0, .int 0, .int 0, .int 0, .ref kK, .ref kL, .ref kC, .ref kW, .ref kD, .long hh]))] zz)) 0 0 (va_A [(m0, .inr (5, [.int 0, .int 0, .ref kO, .ref lO, .int 0, .int 0, .int 0, .ref sC, .ref sW, .ref sD, .int 0, .ref pG, .int 0, .int 0, .ref wO, .ref fO, .ref mO, .ref cO, .long 0, .ref th, .int 0, .int 0, .int 0, .int 0, .ref kK, .ref kL, .ref kC, .ref kW, .ref kD, .long hh]))] zz) := by
  refine Met.ofW (cc := cX5_count) (maxL := 2) (ret := (some .int)) (by decide) rfl ?_
  intro p e s m args below meth c s₁ B hml hv
  obtain ⟨rfl, hsz, hP, hD0, hX⟩ := hv
  have hx := B.exec
  have hb := B.bytes
  have hr := B.returns
  have hts := atoms_spec (ws := wsX5_count) B.pre
  have hown : s.vm.findClass RX5 = some m.cls := findClass_of_methodNamed B.named
  have hlocks := B.notSynchronized
  subst hsz
  have hD := hD0.self (sz := s.heap.size)
  generalize hAe : va_A [(m0, .inr (5, [.int 0, .int 0, .ref kO, .ref lO, .int 0, .int 0, .int 0, .ref sC, .ref sW, .ref sD, .int 0, .ref pG, .int 0, .int 0, .ref wO, .ref fO, .ref mO, .ref cO, .long 0, .ref th, .int 0, .int 0, .int 0, .int 0, .ref kK, .ref kL, .ref kC, .ref kW, .ref kD, .long hh]))] s.heap.size = A at hD hX ⊢
  have hA : ∀ q : Nat, s.heap.size ≤ q → A q := fun q h => by rw [← hAe]; exact Or.inr h
  obtain ⟨H, hH⟩ : ∃ H : Heap, H = s.heap := ⟨_, rfl⟩
  have hS : va_S A s.heap H [] := hH ▸ va_S.rf
  have hK := hX.1
  have hP : va_P D vwCl [(m0, .inr (5, [.int 0, .int 0, .ref kO, .ref lO, .int 0, .int 0, .int 0, .ref sC, .ref sW, .ref sD, .int 0, .ref pG, .int 0, .int 0, .ref wO, .ref fO, .ref mO, .ref cO, .long 0, .ref th, .int 0, .int 0, .int 0, .int 0, .ref kK, .ref kL, .ref kC, .ref kW, .ref kD, .long hh]))] H := hH ▸ hP
  rw [← hH]
  have hl := lv_entry ([.ref m0, .int w]) (n := 2) (Nat.le_of_ble_eq_true rfl)
  rw [lg_entry_eq]
  generalize (lg_sl ([.ref m0, .int w]) ++ List.replicate (2 - (lg_sl ([.ref m0, .int w])).length) Slot.unset).toArray = ls at hl ⊢
  have hl : lv_has ls 2 [(0, .ref m0), (1, .int w)] := hl
  refine lv_aload_n hx hb dX5_count_0 rfl (lv_at hl 0 rfl) ?_
  refine lv_iload_n hx hb dX5_count_1 rfl (lv_at hl 1 rfl) ?_
  refine kc_i (wc := [(m0, .inr (5, [.int 0, .int 0, .ref kO, .ref lO, .int 0, .int 0, .int 0, .ref sC, .ref sW, .ref sD, .int 0, .ref pG, .int 0, .int 0, .ref wO, .ref fO, .ref mO, .ref cO, .long 0, .ref th, .int 0, .int 0, .int 0, .int 0, .ref kK, .ref kL, .ref kC, .ref kW, .ref kD, .long hh]))]) (wr := []) (va_runV (As := [.int w]) (rest := []) ⟨hx, hb, hml, hown, hts⟩ (c_X5_howMany l D cy H.size m0 kO lO sC sW sD pG wO fO mO cO th kK kL kC kW kD hh w ) (cwV 1 hts gX5_count_X5_howMany rfl rfl rfl (by decide +kernel) ⟨Nat.le_of_ble_eq_true rfl, Nat.le_of_ble_eq_true rfl⟩) (cpre_V (wc := [(m0, .inr (5, [.int 0, .int 0, .ref kO, .ref lO, .int 0, .int 0, .int 0, .ref sC, .ref sW, .ref sD, .int 0, .ref pG, .int 0, .int 0, .ref wO, .ref fO, .ref mO, .ref cO, .long 0, .ref th, .int 0, .int 0, .int 0, .int 0, .ref kK, .ref kL, .ref kC, .ref kW, .ref kD, .long hh]))]) 0 5 rfl rfl hX hP hD hS hA [0] (by decide +kernel) rfl) rfl rfl hl.1 rfl (lv_room (Nat.le_of_ble_eq_true rfl)) dX5_count_2 ⟨Nat.le_of_ble_eq_true rfl, Nat.le_of_ble_eq_true rfl⟩) hP hD hS hA [0] [] rfl rfl (by decide +kernel) (by decide +kernel) (fun rl u1 H locs hw hP hD hS => ?_)
  obtain ⟨hu, hrl⟩ := hw
  subst hu
  have hP : va_P D vwCl [(m0, .inr (5, [.int 0, .int 0, .ref kO, .ref lO, .int 0, .int 0, .int 0, .ref sC, .ref sW, .ref sD, .int 0, .ref pG, .int 0, .int 0, .ref wO, .ref fO, .ref mO, .ref cO, .long 0, .ref th, .int 0, .int 0, .int 0, .int 0, .ref kK, .ref kL, .ref kC, .ref kW, .ref kD, .long hh]))] H := hP
  have hD : va_D A [(m0, .inr (5, [.int 0, .int 0, .ref kO, .ref lO, .int 0, .int 0, .int 0, .ref sC, .ref sW, .ref sD, .int 0, .ref pG, .int 0, .int 0, .ref wO, .ref fO, .ref mO, .ref cO, .long 0, .ref th, .int 0, .int 0, .int 0, .int 0, .ref kK, .ref kL, .ref kC, .ref kW, .ref kD, .long hh]))] := hD
  have hP9 := hP.sub (ws' := [(m0, .inr (5, [.int 0, .int 0, .ref kO, .ref lO, .int 0, .int 0, .int 0, .ref sC, .ref sW, .ref sD, .int 0, .ref pG, .int 0, .int 0, .ref wO, .ref fO, .ref mO, .ref cO, .long 0, .ref th, .int 0, .int 0, .int 0, .int 0, .ref kK, .ref kL, .ref kC, .ref kW, .ref kD, .long hh]))]) [0] rfl
  have hD9 := hD.sub (ws' := [(m0, .inr (5, [.int 0, .int 0, .ref kO, .ref lO, .int 0, .int 0, .int 0, .ref sC, .ref sW, .ref sD, .int 0, .ref pG, .int 0, .int 0, .ref wO, .ref fO, .ref mO, .ref cO, .long 0, .ref th, .int 0, .int 0, .int 0, .int 0, .ref kK, .ref kL, .ref kC, .ref kW, .ref kD, .long hh]))]) [0] (by decide +kernel) rfl
  exact W.iret (v := rl) hx hb hr (fun t9 ht9 hW9 => ⟨⟨rl, [(m0, .inr (5, [.int 0, .int 0, .ref kO, .ref lO, .int 0, .int 0, .int 0, .ref sC, .ref sW, .ref sD, .int 0, .ref pG, .int 0, .int 0, .ref wO, .ref fO, .ref mO, .ref cO, .long 0, .ref th, .int 0, .int 0, .int 0, .int 0, .ref kK, .ref kL, .ref kC, .ref kW, .ref kD, .long hh]))], rfl, ⟨rfl, hrl⟩, by rw [ht9]; exact hP9, hD9⟩, hS.F ht9⟩) hS.2.2 dX5_count_5
def q_X5_mix (cy : Nat → ClassId) (m0 : Nat) (kO : Nat) (lO : Nat) (sC : Nat) (sW : Nat) (sD : Nat) (pG : Nat) (wO : Nat) (fO : Nat) (mO : Nat) (cO : Nat) (th : Nat) (kK : Nat) (kL : Nat) (kC : Nat) (kW : Nat) (kD : Nat) (hh : Int64) (v : Int64) : va_W → Prop := fun (u : va_W) => u = [(m0, .inr (5, [.int 0, .int 0, .ref kO, .ref lO, .int 0, .int 0, .int 0, .ref sC, .ref sW, .ref sD, .int 0, .ref pG, .int 0, .int 0, .ref wO, .ref fO, .ref mO, .ref cO, .long 0, .ref th, .int 0, .int 0, .int 0, .int 0, .ref kK, .ref kL, .ref kC, .ref kW, .ref kD, .long (31 * hh + v)]))]
set_option maxHeartbeats 4000000 in
set_option maxRecDepth 100000 in
theorem c_X5_mix (l : Launch) (D : va_G) (cy : Nat → ClassId) (zz : Nat) (m0 : Nat) (kO : Nat) (lO : Nat) (sC : Nat) (sW : Nat) (sD : Nat) (pG : Nat) (wO : Nat) (fO : Nat) (mO : Nat) (cO : Nat) (th : Nat) (kK : Nat) (kL : Nat) (kC : Nat) (kW : Nat) (kD : Nat) (hh : Int64) (v : Int64) : Met l yX5_mix wsX5_mix ({ frames := 0, cells := 0, slots := 0, locals := 0 } : Room) (va_Pc [.ref m0, .long v] (cpre D cy [(m0, .inr (5, [.int 0, .int 0, .ref kO, .ref lO, .int 0, .int 0, .int 0, .ref sC, .ref sW, .ref sD, .int 0, .ref pG, .int 0, .int 0, .ref wO, .ref fO, .ref mO, .ref cO, .long 0, .ref th, .int 0, .int 0, .int 0, .int 0, .ref kK, .ref kL, .ref kC, .ref kW, .ref kD, .long hh]))] zz)) (va_Qv (q_X5_mix cy m0 kO lO sC sW sD pG wO fO mO cO th kK kL kC kW kD hh v) (cpost D (va_A [(m0, .inr (5, [.int 0, .int 0, .ref kO, .ref lO, .int 0, .int 0, .int 0, .ref sC, .ref sW, .ref sD, .int 0, .ref pG, .int 0, .int 0, .ref wO, .ref fO, .ref mO, .ref cO, .long 0, .ref th, .int 0, .int 0, .int 0, .int 0, .ref kK, .ref kL, .ref kC, .ref kW, .ref kD, .long hh]))] zz)) (va_A [(m0, .inr (5, [.int 0, .int 0, .ref kO, .ref lO, .int 0, .int 0, .int 0, .ref sC, .ref sW, .ref sD, .int 0, .ref pG, .int 0, .int 0, .ref wO, .ref fO, .ref mO, .ref cO, .long 0, .ref th, .int 0, .int 0, .int 0, .int 0, .ref kK, .ref kL, .ref kC, .ref kW, .ref kD, .long hh]))] zz)) 0 0 (va_A [(m0, .inr (5, [.int 0, .int 0, .ref kO, .ref lO, .int 0, .int 0, .int 0, .ref sC, .ref sW, .ref sD, .int 0, .ref pG, .int 0, .int 0, .ref wO, .ref fO, .ref mO, .ref cO, .long 0, .ref th, .int 0, .int 0, .int 0, .int 0, .ref kK, .ref kL, .ref kC, .ref kW, .ref kD, .long hh]))] zz) := by
  refine Met.ofW (cc := cX5_mix) (maxL := 3) (ret := none) (by decide) rfl ?_
  intro p e s m args below meth c s₁ B hml hv
  obtain ⟨rfl, hsz, hP, hD0, hX⟩ := hv
  have hx := B.exec
  have hb := B.bytes
  have hr := B.returns
  have hts := atoms_spec (ws := wsX5_mix) B.pre
  have hown : s.vm.findClass RX5 = some m.cls := findClass_of_methodNamed B.named
  have hlocks := B.notSynchronized
  subst hsz
  have hD := hD0.self (sz := s.heap.size)
  generalize hAe : va_A [(m0, .inr (5, [.int 0, .int 0, .ref kO, .ref lO, .int 0, .int 0, .int 0, .ref sC, .ref sW, .ref sD, .int 0, .ref pG, .int 0, .int 0, .ref wO, .ref fO, .ref mO, .ref cO, .long 0, .ref th, .int 0, .int 0, .int 0, .int 0, .ref kK, .ref kL, .ref kC, .ref kW, .ref kD, .long hh]))] s.heap.size = A at hD hX ⊢
  have hA : ∀ q : Nat, s.heap.size ≤ q → A q := fun q h => by rw [← hAe]; exact Or.inr h
  obtain ⟨H, hH⟩ : ∃ H : Heap, H = s.heap := ⟨_, rfl⟩
  have hS : va_S A s.heap H [] := hH ▸ va_S.rf
  have hK := hX.1
  have hP : va_P D vwCl [(m0, .inr (5, [.int 0, .int 0, .ref kO, .ref lO, .int 0, .int 0, .int 0, .ref sC, .ref sW, .ref sD, .int 0, .ref pG, .int 0, .int 0, .ref wO, .ref fO, .ref mO, .ref cO, .long 0, .ref th, .int 0, .int 0, .int 0, .int 0, .ref kK, .ref kL, .ref kC, .ref kW, .ref kD, .long hh]))] H := hH ▸ hP
  rw [← hH]
  have hw_X5 : ∀ w ∈ wsX50, w ∈ wsX5_mix := by decide +kernel
  have k_273 := hts (.constantLong RX5 273 (31)) (by decide +kernel)
  have f_275 := hts (.fieldLink RX5 275 "CubeTowerModel" "h" "J") (by decide +kernel)
  have hl := lv_entry ([.ref m0, .long v]) (n := 3) (Nat.le_of_ble_eq_true rfl)
  rw [lg_entry_eq]
  generalize (lg_sl ([.ref m0, .long v]) ++ List.replicate (3 - (lg_sl ([.ref m0, .long v])).length) Slot.unset).toArray = ls at hl ⊢
  have hl : lv_has ls 3 [(0, .ref m0), (1, .long v)] := hl
  refine lv_aload_n hx hb dX5_mix_0 rfl (lv_at hl 0 rfl) ?_
  refine lv_ldc2 hx hb hown k_273 dX5_mix_1 ?_
  refine lv_aload_n hx hb dX5_mix_4 rfl (lv_at hl 0 rfl) ?_
  refine va_get (D := D) (ci := 5) (v := .long hh) (C := RX5) (T := TX5) (N := 30) hx hb hts hw_X5 hown hK hP 0 rfl rfl 29 (by decide) f_275 (fun _ h9 => h9) rfl dX5_mix_5 ?_
  refine lv_lmul hx hb dX5_mix_8 ?_
  refine lv_lload_n hx hb dX5_mix_9 rfl (lv_at hl 1 rfl) ?_
  refine lv_ladd hx hb dX5_mix_10 ?_
  refine va_put (D := D) (ci := 5) (v := .long ((31 * hh) + v)) (ty := .long) (C := RX5) (T := TX5) (N := 30) hx hb hts hw_X5 tyX5 tyX5_ok nmX5 hown hK hP hD hS 0 rfl rfl 29 (by decide) f_275 (fun _ h9 => h9) rfl (by decide +kernel) rfl rfl (Nat.le_of_ble_eq_true rfl) dX5_mix_11 (fun H locs hP hD hS => ?_)
  have hP : va_P D vwCl [(m0, .inr (5, [.int 0, .int 0, .ref kO, .ref lO, .int 0, .int 0, .int 0, .ref sC, .ref sW, .ref sD, .int 0, .ref pG, .int 0, .int 0, .ref wO, .ref fO, .ref mO, .ref cO, .long 0, .ref th, .int 0, .int 0, .int 0, .int 0, .ref kK, .ref kL, .ref kC, .ref kW, .ref kD, .long ((31 * hh) + v)]))] H := hP
  have hD : va_D A [(m0, .inr (5, [.int 0, .int 0, .ref kO, .ref lO, .int 0, .int 0, .int 0, .ref sC, .ref sW, .ref sD, .int 0, .ref pG, .int 0, .int 0, .ref wO, .ref fO, .ref mO, .ref cO, .long 0, .ref th, .int 0, .int 0, .int 0, .int 0, .ref kK, .ref kL, .ref kC, .ref kW, .ref kD, .long ((31 * hh) + v)]))] := hD
  have hP9 := hP.sub (ws' := [(m0, .inr (5, [.int 0, .int 0, .ref kO, .ref lO, .int 0, .int 0, .int 0, .ref sC, .ref sW, .ref sD, .int 0, .ref pG, .int 0, .int 0, .ref wO, .ref fO, .ref mO, .ref cO, .long 0, .ref th, .int 0, .int 0, .int 0, .int 0, .ref kK, .ref kL, .ref kC, .ref kW, .ref kD, .long (31 * hh + v)]))]) [0] rfl
  have hD9 := hD.sub (ws' := [(m0, .inr (5, [.int 0, .int 0, .ref kO, .ref lO, .int 0, .int 0, .int 0, .ref sC, .ref sW, .ref sD, .int 0, .ref pG, .int 0, .int 0, .ref wO, .ref fO, .ref mO, .ref cO, .long 0, .ref th, .int 0, .int 0, .int 0, .int 0, .ref kK, .ref kL, .ref kC, .ref kW, .ref kD, .long (31 * hh + v)]))]) [0] (by decide +kernel) rfl
  exact W.vret hx hb hr (fun t9 ht9 hW9 => ⟨⟨[(m0, .inr (5, [.int 0, .int 0, .ref kO, .ref lO, .int 0, .int 0, .int 0, .ref sC, .ref sW, .ref sD, .int 0, .ref pG, .int 0, .int 0, .ref wO, .ref fO, .ref mO, .ref cO, .long 0, .ref th, .int 0, .int 0, .int 0, .int 0, .ref kK, .ref kL, .ref kC, .ref kW, .ref kD, .long (31 * hh + v)]))], rfl, rfl, by rw [ht9]; exact hP9, hD9⟩, hS.F ht9⟩) hS.2.2 dX5_mix_14
def q_X5_digest (cy : Nat → ClassId) (m0 : Nat) (kO : Nat) (lO : Nat) (sC : Nat) (sW : Nat) (sD : Nat) (pG : Nat) (wO : Nat) (fO : Nat) (mO : Nat) (cO : Nat) (th : Nat) (kK : Nat) (kL : Nat) (kC : Nat) (kW : Nat) (kD : Nat) : Int64 → va_W → Prop := fun (r : Int64) (u : va_W) => u = [(m0, .inr (5, [.int 0, .int 0, .ref kO, .ref lO, .int 0, .int 0, .int 0, .ref sC, .ref sW, .ref sD, .int 0, .ref pG, .int 0, .int 0, .ref wO, .ref fO, .ref mO, .ref cO, .long 0, .ref th, .int 0, .int 0, .int 0, .int 0, .ref kK, .ref kL, .ref kC, .ref kW, .ref kD, .long 34873861629925049]))] ∧ r = 34873861629925049
set_option maxHeartbeats 4000000 in
set_option maxRecDepth 100000 in
theorem c_X5_digest (l : Launch) (D : va_G) (cy : Nat → ClassId) (zz : Nat) (m0 : Nat) (kO : Nat) (lO : Nat) (sC : Nat) (sW : Nat) (sD : Nat) (pG : Nat) (wO : Nat) (fO : Nat) (mO : Nat) (cO : Nat) (th : Nat) (kK : Nat) (kL : Nat) (kC : Nat) (kW : Nat) (kD : Nat) : Met l yX5_digest wsX5_digest ({ frames := 3, cells := 0, slots := 0, locals := 66 } : Room) (va_Pc [.ref m0] (cpre D cy [(m0, .inr (5, [.int 0, .int 0, .ref kO, .ref lO, .int 0, .int 0, .int 0, .ref sC, .ref sW, .ref sD, .int 0, .ref pG, .int 0, .int 0, .ref wO, .ref fO, .ref mO, .ref cO, .long 0, .ref th, .int 0, .int 0, .int 0, .int 0, .ref kK, .ref kL, .ref kC, .ref kW, .ref kD, .long 0]))] zz)) (va_Ql (q_X5_digest cy m0 kO lO sC sW sD pG wO fO mO cO th kK kL kC kW kD) (cpost D (va_A [(m0, .inr (5, [.int 0, .int 0, .ref kO, .ref lO, .int 0, .int 0, .int 0, .ref sC, .ref sW, .ref sD, .int 0, .ref pG, .int 0, .int 0, .ref wO, .ref fO, .ref mO, .ref cO, .long 0, .ref th, .int 0, .int 0, .int 0, .int 0, .ref kK, .ref kL, .ref kC, .ref kW, .ref kD, .long 0]))] zz)) (va_A [(m0, .inr (5, [.int 0, .int 0, .ref kO, .ref lO, .int 0, .int 0, .int 0, .ref sC, .ref sW, .ref sD, .int 0, .ref pG, .int 0, .int 0, .ref wO, .ref fO, .ref mO, .ref cO, .long 0, .ref th, .int 0, .int 0, .int 0, .int 0, .ref kK, .ref kL, .ref kC, .ref kW, .ref kD, .long 0]))] zz)) 0 0 (va_A [(m0, .inr (5, [.int 0, .int 0, .ref kO, .ref lO, .int 0, .int 0, .int 0, .ref sC, .ref sW, .ref sD, .int 0, .ref pG, .int 0, .int 0, .ref wO, .ref fO, .ref mO, .ref cO, .long 0, .ref th, .int 0, .int 0, .int 0, .int 0, .ref kK, .ref kL, .ref kC, .ref kW, .ref kD, .long 0]))] zz) := by
  refine Met.ofW (cc := cX5_digest) (maxL := 3) (ret := (some .long)) (by decide) rfl ?_
  intro p e s m args below meth c s₁ B hml hv
  obtain ⟨rfl, hsz, hP, hD0, hX⟩ := hv
  have hx := B.exec
  have hb := B.bytes
  have hr := B.returns
  have hts := atoms_spec (ws := wsX5_digest) B.pre
  have hown : s.vm.findClass RX5 = some m.cls := findClass_of_methodNamed B.named
  have hlocks := B.notSynchronized
  subst hsz
  have hD := hD0.self (sz := s.heap.size)
  generalize hAe : va_A [(m0, .inr (5, [.int 0, .int 0, .ref kO, .ref lO, .int 0, .int 0, .int 0, .ref sC, .ref sW, .ref sD, .int 0, .ref pG, .int 0, .int 0, .ref wO, .ref fO, .ref mO, .ref cO, .long 0, .ref th, .int 0, .int 0, .int 0, .int 0, .ref kK, .ref kL, .ref kC, .ref kW, .ref kD, .long 0]))] s.heap.size = A at hD hX ⊢
  have hA : ∀ q : Nat, s.heap.size ≤ q → A q := fun q h => by rw [← hAe]; exact Or.inr h
  obtain ⟨H, hH⟩ : ∃ H : Heap, H = s.heap := ⟨_, rfl⟩
  have hS : va_S A s.heap H [] := hH ▸ va_S.rf
  have hK := hX.1
  have hP : va_P D vwCl [(m0, .inr (5, [.int 0, .int 0, .ref kO, .ref lO, .int 0, .int 0, .int 0, .ref sC, .ref sW, .ref sD, .int 0, .ref pG, .int 0, .int 0, .ref wO, .ref fO, .ref mO, .ref cO, .long 0, .ref th, .int 0, .int 0, .int 0, .int 0, .ref kK, .ref kL, .ref kC, .ref kW, .ref kD, .long 0]))] H := hH ▸ hP
  rw [← hH]
  have hw_X5 : ∀ w ∈ wsX50, w ∈ wsX5_digest := by decide +kernel
  have k_282 := hts (.constantLong RX5 282 (1319)) (by decide +kernel)
  have f_275 := hts (.fieldLink RX5 275 "CubeTowerModel" "h" "J") (by decide +kernel)
  have f_88 := hts (.fieldLink RX5 88 "CubeTowerModel" "cubes" "I") (by decide +kernel)
  have f_63 := hts (.fieldLink RX5 63 "CubeTowerModel" "pageLength" "I") (by decide +kernel)
  have hl := lv_entry ([.ref m0]) (n := 3) (Nat.le_of_ble_eq_true rfl)
  rw [lg_entry_eq]
  generalize (lg_sl ([.ref m0]) ++ List.replicate (3 - (lg_sl ([.ref m0])).length) Slot.unset).toArray = ls at hl ⊢
  have hl : lv_has ls 3 [(0, .ref m0)] := hl
  refine lv_aload_n hx hb dX5_digest_0 rfl (lv_at hl 0 rfl) ?_
  refine lv_ldc2 hx hb hown k_282 dX5_digest_1 ?_
  refine va_put (D := D) (ci := 5) (v := .long 1319) (ty := .long) (C := RX5) (T := TX5) (N := 30) hx hb hts hw_X5 tyX5 tyX5_ok nmX5 hown hK hP hD hS 0 rfl rfl 29 (by decide) f_275 (fun _ h9 => h9) rfl (by decide +kernel) rfl rfl (Nat.le_of_ble_eq_true rfl) dX5_digest_4 (fun H locs hP hD hS => ?_)
  have hP : va_P D vwCl [(m0, .inr (5, [.int 0, .int 0, .ref kO, .ref lO, .int 0, .int 0, .int 0, .ref sC, .ref sW, .ref sD, .int 0, .ref pG, .int 0, .int 0, .ref wO, .ref fO, .ref mO, .ref cO, .long 0, .ref th, .int 0, .int 0, .int 0, .int 0, .ref kK, .ref kL, .ref kC, .ref kW, .ref kD, .long 1319]))] H := hP
  have hD : va_D A [(m0, .inr (5, [.int 0, .int 0, .ref kO, .ref lO, .int 0, .int 0, .int 0, .ref sC, .ref sW, .ref sD, .int 0, .ref pG, .int 0, .int 0, .ref wO, .ref fO, .ref mO, .ref cO, .long 0, .ref th, .int 0, .int 0, .int 0, .int 0, .ref kK, .ref kL, .ref kC, .ref kW, .ref kD, .long 1319]))] := hD
  refine lv_iconst (v := 0) hx hb dX5_digest_7 (by decide) ?_
  refine lv_istore_n (lv' := [(1, .int 0), (0, .ref m0)]) hx hb dX5_digest_8 rfl hl (by decide) rfl (fun ls hl => ?_)
  refine lv_iload_n hx hb dX5_digest_9 rfl (lv_at hl 0 rfl) ?_
  refine lv_aload_n hx hb dX5_digest_10 rfl (lv_at hl 1 rfl) ?_
  refine va_get (D := D) (ci := 5) (v := .int 0) (C := RX5) (T := TX5) (N := 30) hx hb hts hw_X5 hown hK hP 0 rfl rfl 1 (by decide) f_88 (fun _ h9 => h9) rfl dX5_digest_11 ?_
  refine lv_icmp_ge (tgt := 73) hx hb dX5_digest_14 (by decide) (fun c_14 => ?_) (fun c_14 => ?_)
  · refine lv_aload_n hx hb dX5_digest_73 rfl (lv_at hl 1 rfl) ?_
    refine va_get (D := D) (ci := 5) (v := .int 0) (C := RX5) (T := TX5) (N := 30) hx hb hts hw_X5 hown hK hP 0 rfl rfl 1 (by decide) f_88 (fun _ h9 => h9) rfl dX5_digest_74 ?_
    refine lv_if_le (tgt := 84) hx hb dX5_digest_77 (by decide) (fun c_77 => ?_) (fun c_77 => ?_)
    · refine lv_iconst (v := 0) hx hb dX5_digest_84 (by decide) ?_
      refine lv_istore_n (lv' := [(1, .int 0), (0, .ref m0)]) hx hb dX5_digest_85 rfl hl (by decide) rfl (fun ls hl => ?_)
      refine lv_iload_n hx hb dX5_digest_86 rfl (lv_at hl 0 rfl) ?_
      refine lv_aload_n hx hb dX5_digest_87 rfl (lv_at hl 1 rfl) ?_
      refine va_get (D := D) (ci := 5) (v := .int 0) (C := RX5) (T := TX5) (N := 30) hx hb hts hw_X5 hown hK hP 0 rfl rfl 10 (by decide) f_63 (fun _ h9 => h9) rfl dX5_digest_88 ?_
      refine lv_icmp_ge (tgt := 111) hx hb dX5_digest_91 (by decide) (fun c_91 => ?_) (fun c_91 => ?_)
      · refine lv_iconst (v := 0) hx hb dX5_digest_111 (by decide) ?_
        refine lv_istore_n (lv' := [(1, .int 0), (0, .ref m0)]) hx hb dX5_digest_112 rfl hl (by decide) rfl (fun ls hl => ?_)
        refine lv_iload_n hx hb dX5_digest_113 rfl (lv_at hl 0 rfl) ?_
        refine lv_bipush (v := 9) hx hb dX5_digest_114 (by decide) ?_
        refine lv_icmp_ge (tgt := 135) hx hb dX5_digest_116 (by decide) (fun c_116 => ?_) (fun c_116 => ?_)
        · exact absurd c_116 (by decide)
        · refine lv_aload_n hx hb dX5_digest_119 rfl (lv_at hl 1 rfl) ?_
          refine lv_aload_n hx hb dX5_digest_120 rfl (lv_at hl 1 rfl) ?_
          refine lv_iload_n hx hb dX5_digest_121 rfl (lv_at hl 0 rfl) ?_
          refine kc_i (wc := [(m0, .inr (5, [.int 0, .int 0, .ref kO, .ref lO, .int 0, .int 0, .int 0, .ref sC, .ref sW, .ref sD, .int 0, .ref pG, .int 0, .int 0, .ref wO, .ref fO, .ref mO, .ref cO, .long 0, .ref th, .int 0, .int 0, .int 0, .int 0, .ref kK, .ref kL, .ref kC, .ref kW, .ref kD, .long 1319]))]) (wr := []) (va_runV (As := [.int 0]) (rest := [.ref m0]) ⟨hx, hb, hml, hown, hts⟩ (c_X5_howMany l D cy H.size m0 kO lO sC sW sD pG wO fO mO cO th kK kL kC kW kD 1319 0 ) (cwV 1 hts gX5_digest_X5_howMany rfl rfl rfl (by decide +kernel) ⟨Nat.le_of_ble_eq_true rfl, Nat.le_of_ble_eq_true rfl⟩) (cpre_V (wc := [(m0, .inr (5, [.int 0, .int 0, .ref kO, .ref lO, .int 0, .int 0, .int 0, .ref sC, .ref sW, .ref sD, .int 0, .ref pG, .int 0, .int 0, .ref wO, .ref fO, .ref mO, .ref cO, .long 0, .ref th, .int 0, .int 0, .int 0, .int 0, .ref kK, .ref kL, .ref kC, .ref kW, .ref kD, .long 1319]))]) 0 5 rfl rfl hX hP hD hS hA [0] (by decide +kernel) rfl) rfl rfl hl.1 rfl (lv_room (Nat.le_of_ble_eq_true rfl)) dX5_digest_122 ⟨Nat.le_of_ble_eq_true rfl, Nat.le_of_ble_eq_true rfl⟩) hP hD hS hA [0] [] rfl rfl (by decide +kernel) (by decide +kernel) (fun rl u1 H locs hw hP hD hS => ?_)
          obtain ⟨hu, hrl⟩ := hw
          subst hu
          have hP : va_P D vwCl [(m0, .inr (5, [.int 0, .int 0, .ref kO, .ref lO, .int 0, .int 0, .int 0, .ref sC, .ref sW, .ref sD, .int 0, .ref pG, .int 0, .int 0, .ref wO, .ref fO, .ref mO, .ref cO, .long 0, .ref th, .int 0, .int 0, .int 0, .int 0, .ref kK, .ref kL, .ref kC, .ref kW, .ref kD, .long 1319]))] H := hP
          have hD : va_D A [(m0, .inr (5, [.int 0, .int 0, .ref kO, .ref lO, .int 0, .int 0, .int 0, .ref sC, .ref sW, .ref sD, .int 0, .ref pG, .int 0, .int 0, .ref wO, .ref fO, .ref mO, .ref cO, .long 0, .ref th, .int 0, .int 0, .int 0, .int 0, .ref kK, .ref kL, .ref kC, .ref kW, .ref kD, .long 1319]))] := hD
          have hrl := hrl.trans (if_neg (by decide))
          subst hrl
          refine lv_i2l (v := 0) hx hb dX5_digest_125 (by decide) ?_
          refine kc_v (wc := [(m0, .inr (5, [.int 0, .int 0, .ref kO, .ref lO, .int 0, .int 0, .int 0, .ref sC, .ref sW, .ref sD, .int 0, .ref pG, .int 0, .int 0, .ref wO, .ref fO, .ref mO, .ref cO, .long 0, .ref th, .int 0, .int 0, .int 0, .int 0, .ref kK, .ref kL, .ref kC, .ref kW, .ref kD, .long 1319]))]) (wr := []) (va_runV (As := [.long 0]) (rest := []) ⟨hx, hb, hml, hown, hts⟩ (c_X5_mix l D cy H.size m0 kO lO sC sW sD pG wO fO mO cO th kK kL kC kW kD 1319 0 ) (cwV 1 hts gX5_digest_X5_mix rfl rfl rfl (by decide +kernel) ⟨Nat.le_of_ble_eq_true rfl, Nat.le_of_ble_eq_true rfl⟩) (cpre_V (wc := [(m0, .inr (5, [.int 0, .int 0, .ref kO, .ref lO, .int 0, .int 0, .int 0, .ref sC, .ref sW, .ref sD, .int 0, .ref pG, .int 0, .int 0, .ref wO, .ref fO, .ref mO, .ref cO, .long 0, .ref th, .int 0, .int 0, .int 0, .int 0, .ref kK, .ref kL, .ref kC, .ref kW, .ref kD, .long 1319]))]) 0 5 rfl rfl hX hP hD hS hA [0] (by decide +kernel) rfl) rfl rfl hl.1 rfl (lv_room (Nat.le_of_ble_eq_true rfl)) dX5_digest_126 ⟨Nat.le_of_ble_eq_true rfl, Nat.le_of_ble_eq_true rfl⟩) hP hD hS hA [0] [] rfl rfl (by decide +kernel) (by decide +kernel) (fun u3 H locs hw hP hD hS => ?_)
          have hu := hw
          subst hu
          have hP : va_P D vwCl [(m0, .inr (5, [.int 0, .int 0, .ref kO, .ref lO, .int 0, .int 0, .int 0, .ref sC, .ref sW, .ref sD, .int 0, .ref pG, .int 0, .int 0, .ref wO, .ref fO, .ref mO, .ref cO, .long 0, .ref th, .int 0, .int 0, .int 0, .int 0, .ref kK, .ref kL, .ref kC, .ref kW, .ref kD, .long (31 * 1319 + 0)]))] H := hP
          have hD : va_D A [(m0, .inr (5, [.int 0, .int 0, .ref kO, .ref lO, .int 0, .int 0, .int 0, .ref sC, .ref sW, .ref sD, .int 0, .ref pG, .int 0, .int 0, .ref wO, .ref fO, .ref mO, .ref cO, .long 0, .ref th, .int 0, .int 0, .int 0, .int 0, .ref kK, .ref kL, .ref kC, .ref kW, .ref kD, .long (31 * 1319 + 0)]))] := hD
          rw [show (31 * 1319 + 0 : Int64) = 40889 from by decide] at hP hD
          have hP : va_P D vwCl [(m0, .inr (5, [.int 0, .int 0, .ref kO, .ref lO, .int 0, .int 0, .int 0, .ref sC, .ref sW, .ref sD, .int 0, .ref pG, .int 0, .int 0, .ref wO, .ref fO, .ref mO, .ref cO, .long 0, .ref th, .int 0, .int 0, .int 0, .int 0, .ref kK, .ref kL, .ref kC, .ref kW, .ref kD, .long 40889]))] H := hP
          have hD : va_D A [(m0, .inr (5, [.int 0, .int 0, .ref kO, .ref lO, .int 0, .int 0, .int 0, .ref sC, .ref sW, .ref sD, .int 0, .ref pG, .int 0, .int 0, .ref wO, .ref fO, .ref mO, .ref cO, .long 0, .ref th, .int 0, .int 0, .int 0, .int 0, .ref kK, .ref kL, .ref kC, .ref kW, .ref kD, .long 40889]))] := hD
          refine lv_iinc (v := 1) (lv' := [(1, .int 1), (0, .ref m0)]) hx hb dX5_digest_129 hl (k := 0) rfl (by decide) (by decide) rfl (fun ls hl => ?_)
          refine lv_goto (tgt := 113) hx hb dX5_digest_132 (by decide) ?_
          refine lv_iload_n hx hb dX5_digest_113 rfl (lv_at hl 0 rfl) ?_
          refine lv_bipush (v := 9) hx hb dX5_digest_114 (by decide) ?_
          refine lv_icmp_ge (tgt := 135) hx hb dX5_digest_116 (by decide) (fun c_116 => ?_) (fun c_116 => ?_)
          · exact absurd c_116 (by decide)
          · refine lv_aload_n hx hb dX5_digest_119 rfl (lv_at hl 1 rfl) ?_
            refine lv_aload_n hx hb dX5_digest_120 rfl (lv_at hl 1 rfl) ?_
            refine lv_iload_n hx hb dX5_digest_121 rfl (lv_at hl 0 rfl) ?_
            refine kc_i (wc := [(m0, .inr (5, [.int 0, .int 0, .ref kO, .ref lO, .int 0, .int 0, .int 0, .ref sC, .ref sW, .ref sD, .int 0, .ref pG, .int 0, .int 0, .ref wO, .ref fO, .ref mO, .ref cO, .long 0, .ref th, .int 0, .int 0, .int 0, .int 0, .ref kK, .ref kL, .ref kC, .ref kW, .ref kD, .long 40889]))]) (wr := []) (va_runV (As := [.int 1]) (rest := [.ref m0]) ⟨hx, hb, hml, hown, hts⟩ (c_X5_howMany l D cy H.size m0 kO lO sC sW sD pG wO fO mO cO th kK kL kC kW kD 40889 1 ) (cwV 1 hts gX5_digest_X5_howMany rfl rfl rfl (by decide +kernel) ⟨Nat.le_of_ble_eq_true rfl, Nat.le_of_ble_eq_true rfl⟩) (cpre_V (wc := [(m0, .inr (5, [.int 0, .int 0, .ref kO, .ref lO, .int 0, .int 0, .int 0, .ref sC, .ref sW, .ref sD, .int 0, .ref pG, .int 0, .int 0, .ref wO, .ref fO, .ref mO, .ref cO, .long 0, .ref th, .int 0, .int 0, .int 0, .int 0, .ref kK, .ref kL, .ref kC, .ref kW, .ref kD, .long 40889]))]) 0 5 rfl rfl hX hP hD hS hA [0] (by decide +kernel) rfl) rfl rfl hl.1 rfl (lv_room (Nat.le_of_ble_eq_true rfl)) dX5_digest_122 ⟨Nat.le_of_ble_eq_true rfl, Nat.le_of_ble_eq_true rfl⟩) hP hD hS hA [0] [] rfl rfl (by decide +kernel) (by decide +kernel) (fun rl u4 H locs hw hP hD hS => ?_)
            obtain ⟨hu, hrl⟩ := hw
            subst hu
            have hP : va_P D vwCl [(m0, .inr (5, [.int 0, .int 0, .ref kO, .ref lO, .int 0, .int 0, .int 0, .ref sC, .ref sW, .ref sD, .int 0, .ref pG, .int 0, .int 0, .ref wO, .ref fO, .ref mO, .ref cO, .long 0, .ref th, .int 0, .int 0, .int 0, .int 0, .ref kK, .ref kL, .ref kC, .ref kW, .ref kD, .long 40889]))] H := hP
            have hD : va_D A [(m0, .inr (5, [.int 0, .int 0, .ref kO, .ref lO, .int 0, .int 0, .int 0, .ref sC, .ref sW, .ref sD, .int 0, .ref pG, .int 0, .int 0, .ref wO, .ref fO, .ref mO, .ref cO, .long 0, .ref th, .int 0, .int 0, .int 0, .int 0, .ref kK, .ref kL, .ref kC, .ref kW, .ref kD, .long 40889]))] := hD
            have hrl := hrl.trans (if_neg (by decide))
            subst hrl
            refine lv_i2l (v := 0) hx hb dX5_digest_125 (by decide) ?_
            refine kc_v (wc := [(m0, .inr (5, [.int 0, .int 0, .ref kO, .ref lO, .int 0, .int 0, .int 0, .ref sC, .ref sW, .ref sD, .int 0, .ref pG, .int 0, .int 0, .ref wO, .ref fO, .ref mO, .ref cO, .long 0, .ref th, .int 0, .int 0, .int 0, .int 0, .ref kK, .ref kL, .ref kC, .ref kW, .ref kD, .long 40889]))]) (wr := []) (va_runV (As := [.long 0]) (rest := []) ⟨hx, hb, hml, hown, hts⟩ (c_X5_mix l D cy H.size m0 kO lO sC sW sD pG wO fO mO cO th kK kL kC kW kD 40889 0 ) (cwV 1 hts gX5_digest_X5_mix rfl rfl rfl (by decide +kernel) ⟨Nat.le_of_ble_eq_true rfl, Nat.le_of_ble_eq_true rfl⟩) (cpre_V (wc := [(m0, .inr (5, [.int 0, .int 0, .ref kO, .ref lO, .int 0, .int 0, .int 0, .ref sC, .ref sW, .ref sD, .int 0, .ref pG, .int 0, .int 0, .ref wO, .ref fO, .ref mO, .ref cO, .long 0, .ref th, .int 0, .int 0, .int 0, .int 0, .ref kK, .ref kL, .ref kC, .ref kW, .ref kD, .long 40889]))]) 0 5 rfl rfl hX hP hD hS hA [0] (by decide +kernel) rfl) rfl rfl hl.1 rfl (lv_room (Nat.le_of_ble_eq_true rfl)) dX5_digest_126 ⟨Nat.le_of_ble_eq_true rfl, Nat.le_of_ble_eq_true rfl⟩) hP hD hS hA [0] [] rfl rfl (by decide +kernel) (by decide +kernel) (fun u6 H locs hw hP hD hS => ?_)
            have hu := hw
            subst hu
            have hP : va_P D vwCl [(m0, .inr (5, [.int 0, .int 0, .ref kO, .ref lO, .int 0, .int 0, .int 0, .ref sC, .ref sW, .ref sD, .int 0, .ref pG, .int 0, .int 0, .ref wO, .ref fO, .ref mO, .ref cO, .long 0, .ref th, .int 0, .int 0, .int 0, .int 0, .ref kK, .ref kL, .ref kC, .ref kW, .ref kD, .long (31 * 40889 + 0)]))] H := hP
            have hD : va_D A [(m0, .inr (5, [.int 0, .int 0, .ref kO, .ref lO, .int 0, .int 0, .int 0, .ref sC, .ref sW, .ref sD, .int 0, .ref pG, .int 0, .int 0, .ref wO, .ref fO, .ref mO, .ref cO, .long 0, .ref th, .int 0, .int 0, .int 0, .int 0, .ref kK, .ref kL, .ref kC, .ref kW, .ref kD, .long (31 * 40889 + 0)]))] := hD
            rw [show (31 * 40889 + 0 : Int64) = 1267559 from by decide] at hP hD
            have hP : va_P D vwCl [(m0, .inr (5, [.int 0, .int 0, .ref kO, .ref lO, .int 0, .int 0, .int 0, .ref sC, .ref sW, .ref sD, .int 0, .ref pG, .int 0, .int 0, .ref wO, .ref fO, .ref mO, .ref cO, .long 0, .ref th, .int 0, .int 0, .int 0, .int 0, .ref kK, .ref kL, .ref kC, .ref kW, .ref kD, .long 1267559]))] H := hP
            have hD : va_D A [(m0, .inr (5, [.int 0, .int 0, .ref kO, .ref lO, .int 0, .int 0, .int 0, .ref sC, .ref sW, .ref sD, .int 0, .ref pG, .int 0, .int 0, .ref wO, .ref fO, .ref mO, .ref cO, .long 0, .ref th, .int 0, .int 0, .int 0, .int 0, .ref kK, .ref kL, .ref kC, .ref kW, .ref kD, .long 1267559]))] := hD
            refine lv_iinc (v := 2) (lv' := [(1, .int 2), (0, .ref m0)]) hx hb dX5_digest_129 hl (k := 0) rfl (by decide) (by decide) rfl (fun ls hl => ?_)
            refine lv_goto (tgt := 113) hx hb dX5_digest_132 (by decide) ?_
            refine lv_iload_n hx hb dX5_digest_113 rfl (lv_at hl 0 rfl) ?_
            refine lv_bipush (v := 9) hx hb dX5_digest_114 (by decide) ?_
            refine lv_icmp_ge (tgt := 135) hx hb dX5_digest_116 (by decide) (fun c_116 => ?_) (fun c_116 => ?_)
            · exact absurd c_116 (by decide)
            · refine lv_aload_n hx hb dX5_digest_119 rfl (lv_at hl 1 rfl) ?_
              refine lv_aload_n hx hb dX5_digest_120 rfl (lv_at hl 1 rfl) ?_
              refine lv_iload_n hx hb dX5_digest_121 rfl (lv_at hl 0 rfl) ?_
              refine kc_i (wc := [(m0, .inr (5, [.int 0, .int 0, .ref kO, .ref lO, .int 0, .int 0, .int 0, .ref sC, .ref sW, .ref sD, .int 0, .ref pG, .int 0, .int 0, .ref wO, .ref fO, .ref mO, .ref cO, .long 0, .ref th, .int 0, .int 0, .int 0, .int 0, .ref kK, .ref kL, .ref kC, .ref kW, .ref kD, .long 1267559]))]) (wr := []) (va_runV (As := [.int 2]) (rest := [.ref m0]) ⟨hx, hb, hml, hown, hts⟩ (c_X5_howMany l D cy H.size m0 kO lO sC sW sD pG wO fO mO cO th kK kL kC kW kD 1267559 2 ) (cwV 1 hts gX5_digest_X5_howMany rfl rfl rfl (by decide +kernel) ⟨Nat.le_of_ble_eq_true rfl, Nat.le_of_ble_eq_true rfl⟩) (cpre_V (wc := [(m0, .inr (5, [.int 0, .int 0, .ref kO, .ref lO, .int 0, .int 0, .int 0, .ref sC, .ref sW, .ref sD, .int 0, .ref pG, .int 0, .int 0, .ref wO, .ref fO, .ref mO, .ref cO, .long 0, .ref th, .int 0, .int 0, .int 0, .int 0, .ref kK, .ref kL, .ref kC, .ref kW, .ref kD, .long 1267559]))]) 0 5 rfl rfl hX hP hD hS hA [0] (by decide +kernel) rfl) rfl rfl hl.1 rfl (lv_room (Nat.le_of_ble_eq_true rfl)) dX5_digest_122 ⟨Nat.le_of_ble_eq_true rfl, Nat.le_of_ble_eq_true rfl⟩) hP hD hS hA [0] [] rfl rfl (by decide +kernel) (by decide +kernel) (fun rl u7 H locs hw hP hD hS => ?_)
              obtain ⟨hu, hrl⟩ := hw
              subst hu
              have hP : va_P D vwCl [(m0, .inr (5, [.int 0, .int 0, .ref kO, .ref lO, .int 0, .int 0, .int 0, .ref sC, .ref sW, .ref sD, .int 0, .ref pG, .int 0, .int 0, .ref wO, .ref fO, .ref mO, .ref cO, .long 0, .ref th, .int 0, .int 0, .int 0, .int 0, .ref kK, .ref kL, .ref kC, .ref kW, .ref kD, .long 1267559]))] H := hP
              have hD : va_D A [(m0, .inr (5, [.int 0, .int 0, .ref kO, .ref lO, .int 0, .int 0, .int 0, .ref sC, .ref sW, .ref sD, .int 0, .ref pG, .int 0, .int 0, .ref wO, .ref fO, .ref mO, .ref cO, .long 0, .ref th, .int 0, .int 0, .int 0, .int 0, .ref kK, .ref kL, .ref kC, .ref kW, .ref kD, .long 1267559]))] := hD
              have hrl := hrl.trans (if_neg (by decide))
              subst hrl
              refine lv_i2l (v := 0) hx hb dX5_digest_125 (by decide) ?_
              refine kc_v (wc := [(m0, .inr (5, [.int 0, .int 0, .ref kO, .ref lO, .int 0, .int 0, .int 0, .ref sC, .ref sW, .ref sD, .int 0, .ref pG, .int 0, .int 0, .ref wO, .ref fO, .ref mO, .ref cO, .long 0, .ref th, .int 0, .int 0, .int 0, .int 0, .ref kK, .ref kL, .ref kC, .ref kW, .ref kD, .long 1267559]))]) (wr := []) (va_runV (As := [.long 0]) (rest := []) ⟨hx, hb, hml, hown, hts⟩ (c_X5_mix l D cy H.size m0 kO lO sC sW sD pG wO fO mO cO th kK kL kC kW kD 1267559 0 ) (cwV 1 hts gX5_digest_X5_mix rfl rfl rfl (by decide +kernel) ⟨Nat.le_of_ble_eq_true rfl, Nat.le_of_ble_eq_true rfl⟩) (cpre_V (wc := [(m0, .inr (5, [.int 0, .int 0, .ref kO, .ref lO, .int 0, .int 0, .int 0, .ref sC, .ref sW, .ref sD, .int 0, .ref pG, .int 0, .int 0, .ref wO, .ref fO, .ref mO, .ref cO, .long 0, .ref th, .int 0, .int 0, .int 0, .int 0, .ref kK, .ref kL, .ref kC, .ref kW, .ref kD, .long 1267559]))]) 0 5 rfl rfl hX hP hD hS hA [0] (by decide +kernel) rfl) rfl rfl hl.1 rfl (lv_room (Nat.le_of_ble_eq_true rfl)) dX5_digest_126 ⟨Nat.le_of_ble_eq_true rfl, Nat.le_of_ble_eq_true rfl⟩) hP hD hS hA [0] [] rfl rfl (by decide +kernel) (by decide +kernel) (fun u9 H locs hw hP hD hS => ?_)
              have hu := hw
              subst hu
              have hP : va_P D vwCl [(m0, .inr (5, [.int 0, .int 0, .ref kO, .ref lO, .int 0, .int 0, .int 0, .ref sC, .ref sW, .ref sD, .int 0, .ref pG, .int 0, .int 0, .ref wO, .ref fO, .ref mO, .ref cO, .long 0, .ref th, .int 0, .int 0, .int 0, .int 0, .ref kK, .ref kL, .ref kC, .ref kW, .ref kD, .long (31 * 1267559 + 0)]))] H := hP
              have hD : va_D A [(m0, .inr (5, [.int 0, .int 0, .ref kO, .ref lO, .int 0, .int 0, .int 0, .ref sC, .ref sW, .ref sD, .int 0, .ref pG, .int 0, .int 0, .ref wO, .ref fO, .ref mO, .ref cO, .long 0, .ref th, .int 0, .int 0, .int 0, .int 0, .ref kK, .ref kL, .ref kC, .ref kW, .ref kD, .long (31 * 1267559 + 0)]))] := hD
              rw [show (31 * 1267559 + 0 : Int64) = 39294329 from by decide] at hP hD
              have hP : va_P D vwCl [(m0, .inr (5, [.int 0, .int 0, .ref kO, .ref lO, .int 0, .int 0, .int 0, .ref sC, .ref sW, .ref sD, .int 0, .ref pG, .int 0, .int 0, .ref wO, .ref fO, .ref mO, .ref cO, .long 0, .ref th, .int 0, .int 0, .int 0, .int 0, .ref kK, .ref kL, .ref kC, .ref kW, .ref kD, .long 39294329]))] H := hP
              have hD : va_D A [(m0, .inr (5, [.int 0, .int 0, .ref kO, .ref lO, .int 0, .int 0, .int 0, .ref sC, .ref sW, .ref sD, .int 0, .ref pG, .int 0, .int 0, .ref wO, .ref fO, .ref mO, .ref cO, .long 0, .ref th, .int 0, .int 0, .int 0, .int 0, .ref kK, .ref kL, .ref kC, .ref kW, .ref kD, .long 39294329]))] := hD
              refine lv_iinc (v := 3) (lv' := [(1, .int 3), (0, .ref m0)]) hx hb dX5_digest_129 hl (k := 0) rfl (by decide) (by decide) rfl (fun ls hl => ?_)
              refine lv_goto (tgt := 113) hx hb dX5_digest_132 (by decide) ?_
              refine lv_iload_n hx hb dX5_digest_113 rfl (lv_at hl 0 rfl) ?_
              refine lv_bipush (v := 9) hx hb dX5_digest_114 (by decide) ?_
              refine lv_icmp_ge (tgt := 135) hx hb dX5_digest_116 (by decide) (fun c_116 => ?_) (fun c_116 => ?_)
              · exact absurd c_116 (by decide)
              · refine lv_aload_n hx hb dX5_digest_119 rfl (lv_at hl 1 rfl) ?_
                refine lv_aload_n hx hb dX5_digest_120 rfl (lv_at hl 1 rfl) ?_
                refine lv_iload_n hx hb dX5_digest_121 rfl (lv_at hl 0 rfl) ?_
                refine kc_i (wc := [(m0, .inr (5, [.int 0, .int 0, .ref kO, .ref lO, .int 0, .int 0, .int 0, .ref sC, .ref sW, .ref sD, .int 0, .ref pG, .int 0, .int 0, .ref wO, .ref fO, .ref mO, .ref cO, .long 0, .ref th, .int 0, .int 0, .int 0, .int 0, .ref kK, .ref kL, .ref kC, .ref kW, .ref kD, .long 39294329]))]) (wr := []) (va_runV (As := [.int 3]) (rest := [.ref m0]) ⟨hx, hb, hml, hown, hts⟩ (c_X5_howMany l D cy H.size m0 kO lO sC sW sD pG wO fO mO cO th kK kL kC kW kD 39294329 3 ) (cwV 1 hts gX5_digest_X5_howMany rfl rfl rfl (by decide +kernel) ⟨Nat.le_of_ble_eq_true rfl, Nat.le_of_ble_eq_true rfl⟩) (cpre_V (wc := [(m0, .inr (5, [.int 0, .int 0, .ref kO, .ref lO, .int 0, .int 0, .int 0, .ref sC, .ref sW, .ref sD, .int 0, .ref pG, .int 0, .int 0, .ref wO, .ref fO, .ref mO, .ref cO, .long 0, .ref th, .int 0, .int 0, .int 0, .int 0, .ref kK, .ref kL, .ref kC, .ref kW, .ref kD, .long 39294329]))]) 0 5 rfl rfl hX hP hD hS hA [0] (by decide +kernel) rfl) rfl rfl hl.1 rfl (lv_room (Nat.le_of_ble_eq_true rfl)) dX5_digest_122 ⟨Nat.le_of_ble_eq_true rfl, Nat.le_of_ble_eq_true rfl⟩) hP hD hS hA [0] [] rfl rfl (by decide +kernel) (by decide +kernel) (fun rl u10 H locs hw hP hD hS => ?_)
                obtain ⟨hu, hrl⟩ := hw
                subst hu
                have hP : va_P D vwCl [(m0, .inr (5, [.int 0, .int 0, .ref kO, .ref lO, .int 0, .int 0, .int 0, .ref sC, .ref sW, .ref sD, .int 0, .ref pG, .int 0, .int 0, .ref wO, .ref fO, .ref mO, .ref cO, .long 0, .ref th, .int 0, .int 0, .int 0, .int 0, .ref kK, .ref kL, .ref kC, .ref kW, .ref kD, .long 39294329]))] H := hP
                have hD : va_D A [(m0, .inr (5, [.int 0, .int 0, .ref kO, .ref lO, .int 0, .int 0, .int 0, .ref sC, .ref sW, .ref sD, .int 0, .ref pG, .int 0, .int 0, .ref wO, .ref fO, .ref mO, .ref cO, .long 0, .ref th, .int 0, .int 0, .int 0, .int 0, .ref kK, .ref kL, .ref kC, .ref kW, .ref kD, .long 39294329]))] := hD
                have hrl := hrl.trans (if_neg (by decide))
                subst hrl
                refine lv_i2l (v := 0) hx hb dX5_digest_125 (by decide) ?_
                refine kc_v (wc := [(m0, .inr (5, [.int 0, .int 0, .ref kO, .ref lO, .int 0, .int 0, .int 0, .ref sC, .ref sW, .ref sD, .int 0, .ref pG, .int 0, .int 0, .ref wO, .ref fO, .ref mO, .ref cO, .long 0, .ref th, .int 0, .int 0, .int 0, .int 0, .ref kK, .ref kL, .ref kC, .ref kW, .ref kD, .long 39294329]))]) (wr := []) (va_runV (As := [.long 0]) (rest := []) ⟨hx, hb, hml, hown, hts⟩ (c_X5_mix l D cy H.size m0 kO lO sC sW sD pG wO fO mO cO th kK kL kC kW kD 39294329 0 ) (cwV 1 hts gX5_digest_X5_mix rfl rfl rfl (by decide +kernel) ⟨Nat.le_of_ble_eq_true rfl, Nat.le_of_ble_eq_true rfl⟩) (cpre_V (wc := [(m0, .inr (5, [.int 0, .int 0, .ref kO, .ref lO, .int 0, .int 0, .int 0, .ref sC, .ref sW, .ref sD, .int 0, .ref pG, .int 0, .int 0, .ref wO, .ref fO, .ref mO, .ref cO, .long 0, .ref th, .int 0, .int 0, .int 0, .int 0, .ref kK, .ref kL, .ref kC, .ref kW, .ref kD, .long 39294329]))]) 0 5 rfl rfl hX hP hD hS hA [0] (by decide +kernel) rfl) rfl rfl hl.1 rfl (lv_room (Nat.le_of_ble_eq_true rfl)) dX5_digest_126 ⟨Nat.le_of_ble_eq_true rfl, Nat.le_of_ble_eq_true rfl⟩) hP hD hS hA [0] [] rfl rfl (by decide +kernel) (by decide +kernel) (fun u12 H locs hw hP hD hS => ?_)
                have hu := hw
                subst hu
                have hP : va_P D vwCl [(m0, .inr (5, [.int 0, .int 0, .ref kO, .ref lO, .int 0, .int 0, .int 0, .ref sC, .ref sW, .ref sD, .int 0, .ref pG, .int 0, .int 0, .ref wO, .ref fO, .ref mO, .ref cO, .long 0, .ref th, .int 0, .int 0, .int 0, .int 0, .ref kK, .ref kL, .ref kC, .ref kW, .ref kD, .long (31 * 39294329 + 0)]))] H := hP
                have hD : va_D A [(m0, .inr (5, [.int 0, .int 0, .ref kO, .ref lO, .int 0, .int 0, .int 0, .ref sC, .ref sW, .ref sD, .int 0, .ref pG, .int 0, .int 0, .ref wO, .ref fO, .ref mO, .ref cO, .long 0, .ref th, .int 0, .int 0, .int 0, .int 0, .ref kK, .ref kL, .ref kC, .ref kW, .ref kD, .long (31 * 39294329 + 0)]))] := hD
                rw [show (31 * 39294329 + 0 : Int64) = 1218124199 from by decide] at hP hD
                have hP : va_P D vwCl [(m0, .inr (5, [.int 0, .int 0, .ref kO, .ref lO, .int 0, .int 0, .int 0, .ref sC, .ref sW, .ref sD, .int 0, .ref pG, .int 0, .int 0, .ref wO, .ref fO, .ref mO, .ref cO, .long 0, .ref th, .int 0, .int 0, .int 0, .int 0, .ref kK, .ref kL, .ref kC, .ref kW, .ref kD, .long 1218124199]))] H := hP
                have hD : va_D A [(m0, .inr (5, [.int 0, .int 0, .ref kO, .ref lO, .int 0, .int 0, .int 0, .ref sC, .ref sW, .ref sD, .int 0, .ref pG, .int 0, .int 0, .ref wO, .ref fO, .ref mO, .ref cO, .long 0, .ref th, .int 0, .int 0, .int 0, .int 0, .ref kK, .ref kL, .ref kC, .ref kW, .ref kD, .long 1218124199]))] := hD
                refine lv_iinc (v := 4) (lv' := [(1, .int 4), (0, .ref m0)]) hx hb dX5_digest_129 hl (k := 0) rfl (by decide) (by decide) rfl (fun ls hl => ?_)
                refine lv_goto (tgt := 113) hx hb dX5_digest_132 (by decide) ?_
                refine lv_iload_n hx hb dX5_digest_113 rfl (lv_at hl 0 rfl) ?_
                refine lv_bipush (v := 9) hx hb dX5_digest_114 (by decide) ?_
                refine lv_icmp_ge (tgt := 135) hx hb dX5_digest_116 (by decide) (fun c_116 => ?_) (fun c_116 => ?_)
                · exact absurd c_116 (by decide)
                · refine lv_aload_n hx hb dX5_digest_119 rfl (lv_at hl 1 rfl) ?_
                  refine lv_aload_n hx hb dX5_digest_120 rfl (lv_at hl 1 rfl) ?_
                  refine lv_iload_n hx hb dX5_digest_121 rfl (lv_at hl 0 rfl) ?_
                  refine kc_i (wc := [(m0, .inr (5, [.int 0, .int 0, .ref kO, .ref lO, .int 0, .int 0, .int 0, .ref sC, .ref sW, .ref sD, .int 0, .ref pG, .int 0, .int 0, .ref wO, .ref fO, .ref mO, .ref cO, .long 0, .ref th, .int 0, .int 0, .int 0, .int 0, .ref kK, .ref kL, .ref kC, .ref kW, .ref kD, .long 1218124199]))]) (wr := []) (va_runV (As := [.int 4]) (rest := [.ref m0]) ⟨hx, hb, hml, hown, hts⟩ (c_X5_howMany l D cy H.size m0 kO lO sC sW sD pG wO fO mO cO th kK kL kC kW kD 1218124199 4 ) (cwV 1 hts gX5_digest_X5_howMany rfl rfl rfl (by decide +kernel) ⟨Nat.le_of_ble_eq_true rfl, Nat.le_of_ble_eq_true rfl⟩) (cpre_V (wc := [(m0, .inr (5, [.int 0, .int 0, .ref kO, .ref lO, .int 0, .int 0, .int 0, .ref sC, .ref sW, .ref sD, .int 0, .ref pG, .int 0, .int 0, .ref wO, .ref fO, .ref mO, .ref cO, .long 0, .ref th, .int 0, .int 0, .int 0, .int 0, .ref kK, .ref kL, .ref kC, .ref kW, .ref kD, .long 1218124199]))]) 0 5 rfl rfl hX hP hD hS hA [0] (by decide +kernel) rfl) rfl rfl hl.1 rfl (lv_room (Nat.le_of_ble_eq_true rfl)) dX5_digest_122 ⟨Nat.le_of_ble_eq_true rfl, Nat.le_of_ble_eq_true rfl⟩) hP hD hS hA [0] [] rfl rfl (by decide +kernel) (by decide +kernel) (fun rl u13 H locs hw hP hD hS => ?_)
                  obtain ⟨hu, hrl⟩ := hw
                  subst hu
                  have hP : va_P D vwCl [(m0, .inr (5, [.int 0, .int 0, .ref kO, .ref lO, .int 0, .int 0, .int 0, .ref sC, .ref sW, .ref sD, .int 0, .ref pG, .int 0, .int 0, .ref wO, .ref fO, .ref mO, .ref cO, .long 0, .ref th, .int 0, .int 0, .int 0, .int 0, .ref kK, .ref kL, .ref kC, .ref kW, .ref kD, .long 1218124199]))] H := hP
                  have hD : va_D A [(m0, .inr (5, [.int 0, .int 0, .ref kO, .ref lO, .int 0, .int 0, .int 0, .ref sC, .ref sW, .ref sD, .int 0, .ref pG, .int 0, .int 0, .ref wO, .ref fO, .ref mO, .ref cO, .long 0, .ref th, .int 0, .int 0, .int 0, .int 0, .ref kK, .ref kL, .ref kC, .ref kW, .ref kD, .long 1218124199]))] := hD
                  have hrl := hrl.trans (if_neg (by decide))
                  subst hrl
                  refine lv_i2l (v := 0) hx hb dX5_digest_125 (by decide) ?_
                  refine kc_v (wc := [(m0, .inr (5, [.int 0, .int 0, .ref kO, .ref lO, .int 0, .int 0, .int 0, .ref sC, .ref sW, .ref sD, .int 0, .ref pG, .int 0, .int 0, .ref wO, .ref fO, .ref mO, .ref cO, .long 0, .ref th, .int 0, .int 0, .int 0, .int 0, .ref kK, .ref kL, .ref kC, .ref kW, .ref kD, .long 1218124199]))]) (wr := []) (va_runV (As := [.long 0]) (rest := []) ⟨hx, hb, hml, hown, hts⟩ (c_X5_mix l D cy H.size m0 kO lO sC sW sD pG wO fO mO cO th kK kL kC kW kD 1218124199 0 ) (cwV 1 hts gX5_digest_X5_mix rfl rfl rfl (by decide +kernel) ⟨Nat.le_of_ble_eq_true rfl, Nat.le_of_ble_eq_true rfl⟩) (cpre_V (wc := [(m0, .inr (5, [.int 0, .int 0, .ref kO, .ref lO, .int 0, .int 0, .int 0, .ref sC, .ref sW, .ref sD, .int 0, .ref pG, .int 0, .int 0, .ref wO, .ref fO, .ref mO, .ref cO, .long 0, .ref th, .int 0, .int 0, .int 0, .int 0, .ref kK, .ref kL, .ref kC, .ref kW, .ref kD, .long 1218124199]))]) 0 5 rfl rfl hX hP hD hS hA [0] (by decide +kernel) rfl) rfl rfl hl.1 rfl (lv_room (Nat.le_of_ble_eq_true rfl)) dX5_digest_126 ⟨Nat.le_of_ble_eq_true rfl, Nat.le_of_ble_eq_true rfl⟩) hP hD hS hA [0] [] rfl rfl (by decide +kernel) (by decide +kernel) (fun u15 H locs hw hP hD hS => ?_)
                  have hu := hw
                  subst hu
                  have hP : va_P D vwCl [(m0, .inr (5, [.int 0, .int 0, .ref kO, .ref lO, .int 0, .int 0, .int 0, .ref sC, .ref sW, .ref sD, .int 0, .ref pG, .int 0, .int 0, .ref wO, .ref fO, .ref mO, .ref cO, .long 0, .ref th, .int 0, .int 0, .int 0, .int 0, .ref kK, .ref kL, .ref kC, .ref kW, .ref kD, .long (31 * 1218124199 + 0)]))] H := hP
                  have hD : va_D A [(m0, .inr (5, [.int 0, .int 0, .ref kO, .ref lO, .int 0, .int 0, .int 0, .ref sC, .ref sW, .ref sD, .int 0, .ref pG, .int 0, .int 0, .ref wO, .ref fO, .ref mO, .ref cO, .long 0, .ref th, .int 0, .int 0, .int 0, .int 0, .ref kK, .ref kL, .ref kC, .ref kW, .ref kD, .long (31 * 1218124199 + 0)]))] := hD
                  rw [show (31 * 1218124199 + 0 : Int64) = 37761850169 from by decide] at hP hD
                  have hP : va_P D vwCl [(m0, .inr (5, [.int 0, .int 0, .ref kO, .ref lO, .int 0, .int 0, .int 0, .ref sC, .ref sW, .ref sD, .int 0, .ref pG, .int 0, .int 0, .ref wO, .ref fO, .ref mO, .ref cO, .long 0, .ref th, .int 0, .int 0, .int 0, .int 0, .ref kK, .ref kL, .ref kC, .ref kW, .ref kD, .long 37761850169]))] H := hP
                  have hD : va_D A [(m0, .inr (5, [.int 0, .int 0, .ref kO, .ref lO, .int 0, .int 0, .int 0, .ref sC, .ref sW, .ref sD, .int 0, .ref pG, .int 0, .int 0, .ref wO, .ref fO, .ref mO, .ref cO, .long 0, .ref th, .int 0, .int 0, .int 0, .int 0, .ref kK, .ref kL, .ref kC, .ref kW, .ref kD, .long 37761850169]))] := hD
                  refine lv_iinc (v := 5) (lv' := [(1, .int 5), (0, .ref m0)]) hx hb dX5_digest_129 hl (k := 0) rfl (by decide) (by decide) rfl (fun ls hl => ?_)
                  refine lv_goto (tgt := 113) hx hb dX5_digest_132 (by decide) ?_
                  refine lv_iload_n hx hb dX5_digest_113 rfl (lv_at hl 0 rfl) ?_
                  refine lv_bipush (v := 9) hx hb dX5_digest_114 (by decide) ?_
                  refine lv_icmp_ge (tgt := 135) hx hb dX5_digest_116 (by decide) (fun c_116 => ?_) (fun c_116 => ?_)
                  · exact absurd c_116 (by decide)
                  · refine lv_aload_n hx hb dX5_digest_119 rfl (lv_at hl 1 rfl) ?_
                    refine lv_aload_n hx hb dX5_digest_120 rfl (lv_at hl 1 rfl) ?_
                    refine lv_iload_n hx hb dX5_digest_121 rfl (lv_at hl 0 rfl) ?_
                    refine kc_i (wc := [(m0, .inr (5, [.int 0, .int 0, .ref kO, .ref lO, .int 0, .int 0, .int 0, .ref sC, .ref sW, .ref sD, .int 0, .ref pG, .int 0, .int 0, .ref wO, .ref fO, .ref mO, .ref cO, .long 0, .ref th, .int 0, .int 0, .int 0, .int 0, .ref kK, .ref kL, .ref kC, .ref kW, .ref kD, .long 37761850169]))]) (wr := []) (va_runV (As := [.int 5]) (rest := [.ref m0]) ⟨hx, hb, hml, hown, hts⟩ (c_X5_howMany l D cy H.size m0 kO lO sC sW sD pG wO fO mO cO th kK kL kC kW kD 37761850169 5 ) (cwV 1 hts gX5_digest_X5_howMany rfl rfl rfl (by decide +kernel) ⟨Nat.le_of_ble_eq_true rfl, Nat.le_of_ble_eq_true rfl⟩) (cpre_V (wc := [(m0, .inr (5, [.int 0, .int 0, .ref kO, .ref lO, .int 0, .int 0, .int 0, .ref sC, .ref sW, .ref sD, .int 0, .ref pG, .int 0, .int 0, .ref wO, .ref fO, .ref mO, .ref cO, .long 0, .ref th, .int 0, .int 0, .int 0, .int 0, .ref kK, .ref kL, .ref kC, .ref kW, .ref kD, .long 37761850169]))]) 0 5 rfl rfl hX hP hD hS hA [0] (by decide +kernel) rfl) rfl rfl hl.1 rfl (lv_room (Nat.le_of_ble_eq_true rfl)) dX5_digest_122 ⟨Nat.le_of_ble_eq_true rfl, Nat.le_of_ble_eq_true rfl⟩) hP hD hS hA [0] [] rfl rfl (by decide +kernel) (by decide +kernel) (fun rl u16 H locs hw hP hD hS => ?_)
                    obtain ⟨hu, hrl⟩ := hw
                    subst hu
                    have hP : va_P D vwCl [(m0, .inr (5, [.int 0, .int 0, .ref kO, .ref lO, .int 0, .int 0, .int 0, .ref sC, .ref sW, .ref sD, .int 0, .ref pG, .int 0, .int 0, .ref wO, .ref fO, .ref mO, .ref cO, .long 0, .ref th, .int 0, .int 0, .int 0, .int 0, .ref kK, .ref kL, .ref kC, .ref kW, .ref kD, .long 37761850169]))] H := hP
                    have hD : va_D A [(m0, .inr (5, [.int 0, .int 0, .ref kO, .ref lO, .int 0, .int 0, .int 0, .ref sC, .ref sW, .ref sD, .int 0, .ref pG, .int 0, .int 0, .ref wO, .ref fO, .ref mO, .ref cO, .long 0, .ref th, .int 0, .int 0, .int 0, .int 0, .ref kK, .ref kL, .ref kC, .ref kW, .ref kD, .long 37761850169]))] := hD
                    have hrl := hrl.trans (if_neg (by decide))
                    subst hrl
                    refine lv_i2l (v := 0) hx hb dX5_digest_125 (by decide) ?_
                    refine kc_v (wc := [(m0, .inr (5, [.int 0, .int 0, .ref kO, .ref lO, .int 0, .int 0, .int 0, .ref sC, .ref sW, .ref sD, .int 0, .ref pG, .int 0, .int 0, .ref wO, .ref fO, .ref mO, .ref cO, .long 0, .ref th, .int 0, .int 0, .int 0, .int 0, .ref kK, .ref kL, .ref kC, .ref kW, .ref kD, .long 37761850169]))]) (wr := []) (va_runV (As := [.long 0]) (rest := []) ⟨hx, hb, hml, hown, hts⟩ (c_X5_mix l D cy H.size m0 kO lO sC sW sD pG wO fO mO cO th kK kL kC kW kD 37761850169 0 ) (cwV 1 hts gX5_digest_X5_mix rfl rfl rfl (by decide +kernel) ⟨Nat.le_of_ble_eq_true rfl, Nat.le_of_ble_eq_true rfl⟩) (cpre_V (wc := [(m0, .inr (5, [.int 0, .int 0, .ref kO, .ref lO, .int 0, .int 0, .int 0, .ref sC, .ref sW, .ref sD, .int 0, .ref pG, .int 0, .int 0, .ref wO, .ref fO, .ref mO, .ref cO, .long 0, .ref th, .int 0, .int 0, .int 0, .int 0, .ref kK, .ref kL, .ref kC, .ref kW, .ref kD, .long 37761850169]))]) 0 5 rfl rfl hX hP hD hS hA [0] (by decide +kernel) rfl) rfl rfl hl.1 rfl (lv_room (Nat.le_of_ble_eq_true rfl)) dX5_digest_126 ⟨Nat.le_of_ble_eq_true rfl, Nat.le_of_ble_eq_true rfl⟩) hP hD hS hA [0] [] rfl rfl (by decide +kernel) (by decide +kernel) (fun u18 H locs hw hP hD hS => ?_)
                    have hu := hw
                    subst hu
                    have hP : va_P D vwCl [(m0, .inr (5, [.int 0, .int 0, .ref kO, .ref lO, .int 0, .int 0, .int 0, .ref sC, .ref sW, .ref sD, .int 0, .ref pG, .int 0, .int 0, .ref wO, .ref fO, .ref mO, .ref cO, .long 0, .ref th, .int 0, .int 0, .int 0, .int 0, .ref kK, .ref kL, .ref kC, .ref kW, .ref kD, .long (31 * 37761850169 + 0)]))] H := hP
                    have hD : va_D A [(m0, .inr (5, [.int 0, .int 0, .ref kO, .ref lO, .int 0, .int 0, .int 0, .ref sC, .ref sW, .ref sD, .int 0, .ref pG, .int 0, .int 0, .ref wO, .ref fO, .ref mO, .ref cO, .long 0, .ref th, .int 0, .int 0, .int 0, .int 0, .ref kK, .ref kL, .ref kC, .ref kW, .ref kD, .long (31 * 37761850169 + 0)]))] := hD
                    rw [show (31 * 37761850169 + 0 : Int64) = 1170617355239 from by decide] at hP hD
                    have hP : va_P D vwCl [(m0, .inr (5, [.int 0, .int 0, .ref kO, .ref lO, .int 0, .int 0, .int 0, .ref sC, .ref sW, .ref sD, .int 0, .ref pG, .int 0, .int 0, .ref wO, .ref fO, .ref mO, .ref cO, .long 0, .ref th, .int 0, .int 0, .int 0, .int 0, .ref kK, .ref kL, .ref kC, .ref kW, .ref kD, .long 1170617355239]))] H := hP
                    have hD : va_D A [(m0, .inr (5, [.int 0, .int 0, .ref kO, .ref lO, .int 0, .int 0, .int 0, .ref sC, .ref sW, .ref sD, .int 0, .ref pG, .int 0, .int 0, .ref wO, .ref fO, .ref mO, .ref cO, .long 0, .ref th, .int 0, .int 0, .int 0, .int 0, .ref kK, .ref kL, .ref kC, .ref kW, .ref kD, .long 1170617355239]))] := hD
                    refine lv_iinc (v := 6) (lv' := [(1, .int 6), (0, .ref m0)]) hx hb dX5_digest_129 hl (k := 0) rfl (by decide) (by decide) rfl (fun ls hl => ?_)
                    refine lv_goto (tgt := 113) hx hb dX5_digest_132 (by decide) ?_
                    refine lv_iload_n hx hb dX5_digest_113 rfl (lv_at hl 0 rfl) ?_
                    refine lv_bipush (v := 9) hx hb dX5_digest_114 (by decide) ?_
                    refine lv_icmp_ge (tgt := 135) hx hb dX5_digest_116 (by decide) (fun c_116 => ?_) (fun c_116 => ?_)
                    · exact absurd c_116 (by decide)
                    · refine lv_aload_n hx hb dX5_digest_119 rfl (lv_at hl 1 rfl) ?_
                      refine lv_aload_n hx hb dX5_digest_120 rfl (lv_at hl 1 rfl) ?_
                      refine lv_iload_n hx hb dX5_digest_121 rfl (lv_at hl 0 rfl) ?_
                      refine kc_i (wc := [(m0, .inr (5, [.int 0, .int 0, .ref kO, .ref lO, .int 0, .int 0, .int 0, .ref sC, .ref sW, .ref sD, .int 0, .ref pG, .int 0, .int 0, .ref wO, .ref fO, .ref mO, .ref cO, .long 0, .ref th, .int 0, .int 0, .int 0, .int 0, .ref kK, .ref kL, .ref kC, .ref kW, .ref kD, .long 1170617355239]))]) (wr := []) (va_runV (As := [.int 6]) (rest := [.ref m0]) ⟨hx, hb, hml, hown, hts⟩ (c_X5_howMany l D cy H.size m0 kO lO sC sW sD pG wO fO mO cO th kK kL kC kW kD 1170617355239 6 ) (cwV 1 hts gX5_digest_X5_howMany rfl rfl rfl (by decide +kernel) ⟨Nat.le_of_ble_eq_true rfl, Nat.le_of_ble_eq_true rfl⟩) (cpre_V (wc := [(m0, .inr (5, [.int 0, .int 0, .ref kO, .ref lO, .int 0, .int 0, .int 0, .ref sC, .ref sW, .ref sD, .int 0, .ref pG, .int 0, .int 0, .ref wO, .ref fO, .ref mO, .ref cO, .long 0, .ref th, .int 0, .int 0, .int 0, .int 0, .ref kK, .ref kL, .ref kC, .ref kW, .ref kD, .long 1170617355239]))]) 0 5 rfl rfl hX hP hD hS hA [0] (by decide +kernel) rfl) rfl rfl hl.1 rfl (lv_room (Nat.le_of_ble_eq_true rfl)) dX5_digest_122 ⟨Nat.le_of_ble_eq_true rfl, Nat.le_of_ble_eq_true rfl⟩) hP hD hS hA [0] [] rfl rfl (by decide +kernel) (by decide +kernel) (fun rl u19 H locs hw hP hD hS => ?_)
                      obtain ⟨hu, hrl⟩ := hw
                      subst hu
                      have hP : va_P D vwCl [(m0, .inr (5, [.int 0, .int 0, .ref kO, .ref lO, .int 0, .int 0, .int 0, .ref sC, .ref sW, .ref sD, .int 0, .ref pG, .int 0, .int 0, .ref wO, .ref fO, .ref mO, .ref cO, .long 0, .ref th, .int 0, .int 0, .int 0, .int 0, .ref kK, .ref kL, .ref kC, .ref kW, .ref kD, .long 1170617355239]))] H := hP
                      have hD : va_D A [(m0, .inr (5, [.int 0, .int 0, .ref kO, .ref lO, .int 0, .int 0, .int 0, .ref sC, .ref sW, .ref sD, .int 0, .ref pG, .int 0, .int 0, .ref wO, .ref fO, .ref mO, .ref cO, .long 0, .ref th, .int 0, .int 0, .int 0, .int 0, .ref kK, .ref kL, .ref kC, .ref kW, .ref kD, .long 1170617355239]))] := hD
                      have hrl := hrl.trans (if_neg (by decide))
                      subst hrl
                      refine lv_i2l (v := 0) hx hb dX5_digest_125 (by decide) ?_
                      refine kc_v (wc := [(m0, .inr (5, [.int 0, .int 0, .ref kO, .ref lO, .int 0, .int 0, .int 0, .ref sC, .ref sW, .ref sD, .int 0, .ref pG, .int 0, .int 0, .ref wO, .ref fO, .ref mO, .ref cO, .long 0, .ref th, .int 0, .int 0, .int 0, .int 0, .ref kK, .ref kL, .ref kC, .ref kW, .ref kD, .long 1170617355239]))]) (wr := []) (va_runV (As := [.long 0]) (rest := []) ⟨hx, hb, hml, hown, hts⟩ (c_X5_mix l D cy H.size m0 kO lO sC sW sD pG wO fO mO cO th kK kL kC kW kD 1170617355239 0 ) (cwV 1 hts gX5_digest_X5_mix rfl rfl rfl (by decide +kernel) ⟨Nat.le_of_ble_eq_true rfl, Nat.le_of_ble_eq_true rfl⟩) (cpre_V (wc := [(m0, .inr (5, [.int 0, .int 0, .ref kO, .ref lO, .int 0, .int 0, .int 0, .ref sC, .ref sW, .ref sD, .int 0, .ref pG, .int 0, .int 0, .ref wO, .ref fO, .ref mO, .ref cO, .long 0, .ref th, .int 0, .int 0, .int 0, .int 0, .ref kK, .ref kL, .ref kC, .ref kW, .ref kD, .long 1170617355239]))]) 0 5 rfl rfl hX hP hD hS hA [0] (by decide +kernel) rfl) rfl rfl hl.1 rfl (lv_room (Nat.le_of_ble_eq_true rfl)) dX5_digest_126 ⟨Nat.le_of_ble_eq_true rfl, Nat.le_of_ble_eq_true rfl⟩) hP hD hS hA [0] [] rfl rfl (by decide +kernel) (by decide +kernel) (fun u21 H locs hw hP hD hS => ?_)
                      have hu := hw
                      subst hu
                      have hP : va_P D vwCl [(m0, .inr (5, [.int 0, .int 0, .ref kO, .ref lO, .int 0, .int 0, .int 0, .ref sC, .ref sW, .ref sD, .int 0, .ref pG, .int 0, .int 0, .ref wO, .ref fO, .ref mO, .ref cO, .long 0, .ref th, .int 0, .int 0, .int 0, .int 0, .ref kK, .ref kL, .ref kC, .ref kW, .ref kD, .long (31 * 1170617355239 + 0)]))] H := hP
                      have hD : va_D A [(m0, .inr (5, [.int 0, .int 0, .ref kO, .ref lO, .int 0, .int 0, .int 0, .ref sC, .ref sW, .ref sD, .int 0, .ref pG, .int 0, .int 0, .ref wO, .ref fO, .ref mO, .ref cO, .long 0, .ref th, .int 0, .int 0, .int 0, .int 0, .ref kK, .ref kL, .ref kC, .ref kW, .ref kD, .long (31 * 1170617355239 + 0)]))] := hD
                      rw [show (31 * 1170617355239 + 0 : Int64) = 36289138012409 from by decide] at hP hD
                      have hP : va_P D vwCl [(m0, .inr (5, [.int 0, .int 0, .ref kO, .ref lO, .int 0, .int 0, .int 0, .ref sC, .ref sW, .ref sD, .int 0, .ref pG, .int 0, .int 0, .ref wO, .ref fO, .ref mO, .ref cO, .long 0, .ref th, .int 0, .int 0, .int 0, .int 0, .ref kK, .ref kL, .ref kC, .ref kW, .ref kD, .long 36289138012409]))] H := hP
                      have hD : va_D A [(m0, .inr (5, [.int 0, .int 0, .ref kO, .ref lO, .int 0, .int 0, .int 0, .ref sC, .ref sW, .ref sD, .int 0, .ref pG, .int 0, .int 0, .ref wO, .ref fO, .ref mO, .ref cO, .long 0, .ref th, .int 0, .int 0, .int 0, .int 0, .ref kK, .ref kL, .ref kC, .ref kW, .ref kD, .long 36289138012409]))] := hD
                      refine lv_iinc (v := 7) (lv' := [(1, .int 7), (0, .ref m0)]) hx hb dX5_digest_129 hl (k := 0) rfl (by decide) (by decide) rfl (fun ls hl => ?_)
                      refine lv_goto (tgt := 113) hx hb dX5_digest_132 (by decide) ?_
                      refine lv_iload_n hx hb dX5_digest_113 rfl (lv_at hl 0 rfl) ?_
                      refine lv_bipush (v := 9) hx hb dX5_digest_114 (by decide) ?_
                      refine lv_icmp_ge (tgt := 135) hx hb dX5_digest_116 (by decide) (fun c_116 => ?_) (fun c_116 => ?_)
                      · exact absurd c_116 (by decide)
                      · refine lv_aload_n hx hb dX5_digest_119 rfl (lv_at hl 1 rfl) ?_
                        refine lv_aload_n hx hb dX5_digest_120 rfl (lv_at hl 1 rfl) ?_
                        refine lv_iload_n hx hb dX5_digest_121 rfl (lv_at hl 0 rfl) ?_
                        refine kc_i (wc := [(m0, .inr (5, [.int 0, .int 0, .ref kO, .ref lO, .int 0, .int 0, .int 0, .ref sC, .ref sW, .ref sD, .int 0, .ref pG, .int 0, .int 0, .ref wO, .ref fO, .ref mO, .ref cO, .long 0, .ref th, .int 0, .int 0, .int 0, .int 0, .ref kK, .ref kL, .ref kC, .ref kW, .ref kD, .long 36289138012409]))]) (wr := []) (va_runV (As := [.int 7]) (rest := [.ref m0]) ⟨hx, hb, hml, hown, hts⟩ (c_X5_howMany l D cy H.size m0 kO lO sC sW sD pG wO fO mO cO th kK kL kC kW kD 36289138012409 7 ) (cwV 1 hts gX5_digest_X5_howMany rfl rfl rfl (by decide +kernel) ⟨Nat.le_of_ble_eq_true rfl, Nat.le_of_ble_eq_true rfl⟩) (cpre_V (wc := [(m0, .inr (5, [.int 0, .int 0, .ref kO, .ref lO, .int 0, .int 0, .int 0, .ref sC, .ref sW, .ref sD, .int 0, .ref pG, .int 0, .int 0, .ref wO, .ref fO, .ref mO, .ref cO, .long 0, .ref th, .int 0, .int 0, .int 0, .int 0, .ref kK, .ref kL, .ref kC, .ref kW, .ref kD, .long 36289138012409]))]) 0 5 rfl rfl hX hP hD hS hA [0] (by decide +kernel) rfl) rfl rfl hl.1 rfl (lv_room (Nat.le_of_ble_eq_true rfl)) dX5_digest_122 ⟨Nat.le_of_ble_eq_true rfl, Nat.le_of_ble_eq_true rfl⟩) hP hD hS hA [0] [] rfl rfl (by decide +kernel) (by decide +kernel) (fun rl u22 H locs hw hP hD hS => ?_)
                        obtain ⟨hu, hrl⟩ := hw
                        subst hu
                        have hP : va_P D vwCl [(m0, .inr (5, [.int 0, .int 0, .ref kO, .ref lO, .int 0, .int 0, .int 0, .ref sC, .ref sW, .ref sD, .int 0, .ref pG, .int 0, .int 0, .ref wO, .ref fO, .ref mO, .ref cO, .long 0, .ref th, .int 0, .int 0, .int 0, .int 0, .ref kK, .ref kL, .ref kC, .ref kW, .ref kD, .long 36289138012409]))] H := hP
                        have hD : va_D A [(m0, .inr (5, [.int 0, .int 0, .ref kO, .ref lO, .int 0, .int 0, .int 0, .ref sC, .ref sW, .ref sD, .int 0, .ref pG, .int 0, .int 0, .ref wO, .ref fO, .ref mO, .ref cO, .long 0, .ref th, .int 0, .int 0, .int 0, .int 0, .ref kK, .ref kL, .ref kC, .ref kW, .ref kD, .long 36289138012409]))] := hD
                        have hrl := hrl.trans (if_neg (by decide))
                        subst hrl
                        refine lv_i2l (v := 0) hx hb dX5_digest_125 (by decide) ?_
                        refine kc_v (wc := [(m0, .inr (5, [.int 0, .int 0, .ref kO, .ref lO, .int 0, .int 0, .int 0, .ref sC, .ref sW, .ref sD, .int 0, .ref pG, .int 0, .int 0, .ref wO, .ref fO, .ref mO, .ref cO, .long 0, .ref th, .int 0, .int 0, .int 0, .int 0, .ref kK, .ref kL, .ref kC, .ref kW, .ref kD, .long 36289138012409]))]) (wr := []) (va_runV (As := [.long 0]) (rest := []) ⟨hx, hb, hml, hown, hts⟩ (c_X5_mix l D cy H.size m0 kO lO sC sW sD pG wO fO mO cO th kK kL kC kW kD 36289138012409 0 ) (cwV 1 hts gX5_digest_X5_mix rfl rfl rfl (by decide +kernel) ⟨Nat.le_of_ble_eq_true rfl, Nat.le_of_ble_eq_true rfl⟩) (cpre_V (wc := [(m0, .inr (5, [.int 0, .int 0, .ref kO, .ref lO, .int 0, .int 0, .int 0, .ref sC, .ref sW, .ref sD, .int 0, .ref pG, .int 0, .int 0, .ref wO, .ref fO, .ref mO, .ref cO, .long 0, .ref th, .int 0, .int 0, .int 0, .int 0, .ref kK, .ref kL, .ref kC, .ref kW, .ref kD, .long 36289138012409]))]) 0 5 rfl rfl hX hP hD hS hA [0] (by decide +kernel) rfl) rfl rfl hl.1 rfl (lv_room (Nat.le_of_ble_eq_true rfl)) dX5_digest_126 ⟨Nat.le_of_ble_eq_true rfl, Nat.le_of_ble_eq_true rfl⟩) hP hD hS hA [0] [] rfl rfl (by decide +kernel) (by decide +kernel) (fun u24 H locs hw hP hD hS => ?_)
                        have hu := hw
                        subst hu
                        have hP : va_P D vwCl [(m0, .inr (5, [.int 0, .int 0, .ref kO, .ref lO, .int 0, .int 0, .int 0, .ref sC, .ref sW, .ref sD, .int 0, .ref pG, .int 0, .int 0, .ref wO, .ref fO, .ref mO, .ref cO, .long 0, .ref th, .int 0, .int 0, .int 0, .int 0, .ref kK, .ref kL, .ref kC, .ref kW, .ref kD, .long (31 * 36289138012409 + 0)]))] H := hP
                        have hD : va_D A [(m0, .inr (5, [.int 0, .int 0, .ref kO, .ref lO, .int 0, .int 0, .int 0, .ref sC, .ref sW, .ref sD, .int 0, .ref pG, .int 0, .int 0, .ref wO, .ref fO, .ref mO, .ref cO, .long 0, .ref th, .int 0, .int 0, .int 0, .int 0, .ref kK, .ref kL, .ref kC, .ref kW, .ref kD, .long (31 * 36289138012409 + 0)]))] := hD
                        rw [show (31 * 36289138012409 + 0 : Int64) = 1124963278384679 from by decide] at hP hD
                        have hP : va_P D vwCl [(m0, .inr (5, [.int 0, .int 0, .ref kO, .ref lO, .int 0, .int 0, .int 0, .ref sC, .ref sW, .ref sD, .int 0, .ref pG, .int 0, .int 0, .ref wO, .ref fO, .ref mO, .ref cO, .long 0, .ref th, .int 0, .int 0, .int 0, .int 0, .ref kK, .ref kL, .ref kC, .ref kW, .ref kD, .long 1124963278384679]))] H := hP
                        have hD : va_D A [(m0, .inr (5, [.int 0, .int 0, .ref kO, .ref lO, .int 0, .int 0, .int 0, .ref sC, .ref sW, .ref sD, .int 0, .ref pG, .int 0, .int 0, .ref wO, .ref fO, .ref mO, .ref cO, .long 0, .ref th, .int 0, .int 0, .int 0, .int 0, .ref kK, .ref kL, .ref kC, .ref kW, .ref kD, .long 1124963278384679]))] := hD
                        refine lv_iinc (v := 8) (lv' := [(1, .int 8), (0, .ref m0)]) hx hb dX5_digest_129 hl (k := 0) rfl (by decide) (by decide) rfl (fun ls hl => ?_)
                        refine lv_goto (tgt := 113) hx hb dX5_digest_132 (by decide) ?_
                        refine lv_iload_n hx hb dX5_digest_113 rfl (lv_at hl 0 rfl) ?_
                        refine lv_bipush (v := 9) hx hb dX5_digest_114 (by decide) ?_
                        refine lv_icmp_ge (tgt := 135) hx hb dX5_digest_116 (by decide) (fun c_116 => ?_) (fun c_116 => ?_)
                        · exact absurd c_116 (by decide)
                        · refine lv_aload_n hx hb dX5_digest_119 rfl (lv_at hl 1 rfl) ?_
                          refine lv_aload_n hx hb dX5_digest_120 rfl (lv_at hl 1 rfl) ?_
                          refine lv_iload_n hx hb dX5_digest_121 rfl (lv_at hl 0 rfl) ?_
                          refine kc_i (wc := [(m0, .inr (5, [.int 0, .int 0, .ref kO, .ref lO, .int 0, .int 0, .int 0, .ref sC, .ref sW, .ref sD, .int 0, .ref pG, .int 0, .int 0, .ref wO, .ref fO, .ref mO, .ref cO, .long 0, .ref th, .int 0, .int 0, .int 0, .int 0, .ref kK, .ref kL, .ref kC, .ref kW, .ref kD, .long 1124963278384679]))]) (wr := []) (va_runV (As := [.int 8]) (rest := [.ref m0]) ⟨hx, hb, hml, hown, hts⟩ (c_X5_howMany l D cy H.size m0 kO lO sC sW sD pG wO fO mO cO th kK kL kC kW kD 1124963278384679 8 ) (cwV 1 hts gX5_digest_X5_howMany rfl rfl rfl (by decide +kernel) ⟨Nat.le_of_ble_eq_true rfl, Nat.le_of_ble_eq_true rfl⟩) (cpre_V (wc := [(m0, .inr (5, [.int 0, .int 0, .ref kO, .ref lO, .int 0, .int 0, .int 0, .ref sC, .ref sW, .ref sD, .int 0, .ref pG, .int 0, .int 0, .ref wO, .ref fO, .ref mO, .ref cO, .long 0, .ref th, .int 0, .int 0, .int 0, .int 0, .ref kK, .ref kL, .ref kC, .ref kW, .ref kD, .long 1124963278384679]))]) 0 5 rfl rfl hX hP hD hS hA [0] (by decide +kernel) rfl) rfl rfl hl.1 rfl (lv_room (Nat.le_of_ble_eq_true rfl)) dX5_digest_122 ⟨Nat.le_of_ble_eq_true rfl, Nat.le_of_ble_eq_true rfl⟩) hP hD hS hA [0] [] rfl rfl (by decide +kernel) (by decide +kernel) (fun rl u25 H locs hw hP hD hS => ?_)
                          obtain ⟨hu, hrl⟩ := hw
                          subst hu
                          have hP : va_P D vwCl [(m0, .inr (5, [.int 0, .int 0, .ref kO, .ref lO, .int 0, .int 0, .int 0, .ref sC, .ref sW, .ref sD, .int 0, .ref pG, .int 0, .int 0, .ref wO, .ref fO, .ref mO, .ref cO, .long 0, .ref th, .int 0, .int 0, .int 0, .int 0, .ref kK, .ref kL, .ref kC, .ref kW, .ref kD, .long 1124963278384679]))] H := hP
                          have hD : va_D A [(m0, .inr (5, [.int 0, .int 0, .ref kO, .ref lO, .int 0, .int 0, .int 0, .ref sC, .ref sW, .ref sD, .int 0, .ref pG, .int 0, .int 0, .ref wO, .ref fO, .ref mO, .ref cO, .long 0, .ref th, .int 0, .int 0, .int 0, .int 0, .ref kK, .ref kL, .ref kC, .ref kW, .ref kD, .long 1124963278384679]))] := hD
                          have hrl := hrl.trans (if_neg (by decide))
                          subst hrl
                          refine lv_i2l (v := 0) hx hb dX5_digest_125 (by decide) ?_
                          refine kc_v (wc := [(m0, .inr (5, [.int 0, .int 0, .ref kO, .ref lO, .int 0, .int 0, .int 0, .ref sC, .ref sW, .ref sD, .int 0, .ref pG, .int 0, .int 0, .ref wO, .ref fO, .ref mO, .ref cO, .long 0, .ref th, .int 0, .int 0, .int 0, .int 0, .ref kK, .ref kL, .ref kC, .ref kW, .ref kD, .long 1124963278384679]))]) (wr := []) (va_runV (As := [.long 0]) (rest := []) ⟨hx, hb, hml, hown, hts⟩ (c_X5_mix l D cy H.size m0 kO lO sC sW sD pG wO fO mO cO th kK kL kC kW kD 1124963278384679 0 ) (cwV 1 hts gX5_digest_X5_mix rfl rfl rfl (by decide +kernel) ⟨Nat.le_of_ble_eq_true rfl, Nat.le_of_ble_eq_true rfl⟩) (cpre_V (wc := [(m0, .inr (5, [.int 0, .int 0, .ref kO, .ref lO, .int 0, .int 0, .int 0, .ref sC, .ref sW, .ref sD, .int 0, .ref pG, .int 0, .int 0, .ref wO, .ref fO, .ref mO, .ref cO, .long 0, .ref th, .int 0, .int 0, .int 0, .int 0, .ref kK, .ref kL, .ref kC, .ref kW, .ref kD, .long 1124963278384679]))]) 0 5 rfl rfl hX hP hD hS hA [0] (by decide +kernel) rfl) rfl rfl hl.1 rfl (lv_room (Nat.le_of_ble_eq_true rfl)) dX5_digest_126 ⟨Nat.le_of_ble_eq_true rfl, Nat.le_of_ble_eq_true rfl⟩) hP hD hS hA [0] [] rfl rfl (by decide +kernel) (by decide +kernel) (fun u27 H locs hw hP hD hS => ?_)
                          have hu := hw
                          subst hu
                          have hP : va_P D vwCl [(m0, .inr (5, [.int 0, .int 0, .ref kO, .ref lO, .int 0, .int 0, .int 0, .ref sC, .ref sW, .ref sD, .int 0, .ref pG, .int 0, .int 0, .ref wO, .ref fO, .ref mO, .ref cO, .long 0, .ref th, .int 0, .int 0, .int 0, .int 0, .ref kK, .ref kL, .ref kC, .ref kW, .ref kD, .long (31 * 1124963278384679 + 0)]))] H := hP
                          have hD : va_D A [(m0, .inr (5, [.int 0, .int 0, .ref kO, .ref lO, .int 0, .int 0, .int 0, .ref sC, .ref sW, .ref sD, .int 0, .ref pG, .int 0, .int 0, .ref wO, .ref fO, .ref mO, .ref cO, .long 0, .ref th, .int 0, .int 0, .int 0, .int 0, .ref kK, .ref kL, .ref kC, .ref kW, .ref kD, .long (31 * 1124963278384679 + 0)]))] := hD
                          rw [show (31 * 1124963278384679 + 0 : Int64) = 34873861629925049 from by decide] at hP hD
                          have hP : va_P D vwCl [(m0, .inr (5, [.int 0, .int 0, .ref kO, .ref lO, .int 0, .int 0, .int 0, .ref sC, .ref sW, .ref sD, .int 0, .ref pG, .int 0, .int 0, .ref wO, .ref fO, .ref mO, .ref cO, .long 0, .ref th, .int 0, .int 0, .int 0, .int 0, .ref kK, .ref kL, .ref kC, .ref kW, .ref kD, .long 34873861629925049]))] H := hP
                          have hD : va_D A [(m0, .inr (5, [.int 0, .int 0, .ref kO, .ref lO, .int 0, .int 0, .int 0, .ref sC, .ref sW, .ref sD, .int 0, .ref pG, .int 0, .int 0, .ref wO, .ref fO, .ref mO, .ref cO, .long 0, .ref th, .int 0, .int 0, .int 0, .int 0, .ref kK, .ref kL, .ref kC, .ref kW, .ref kD, .long 34873861629925049]))] := hD
                          refine lv_iinc (v := 9) (lv' := [(1, .int 9), (0, .ref m0)]) hx hb dX5_digest_129 hl (k := 0) rfl (by decide) (by decide) rfl (fun ls hl => ?_)
                          refine lv_goto (tgt := 113) hx hb dX5_digest_132 (by decide) ?_
                          refine lv_iload_n hx hb dX5_digest_113 rfl (lv_at hl 0 rfl) ?_
                          refine lv_bipush (v := 9) hx hb dX5_digest_114 (by decide) ?_
                          refine lv_icmp_ge (tgt := 135) hx hb dX5_digest_116 (by decide) (fun c_116 => ?_) (fun c_116 => ?_)
                          · refine lv_aload_n hx hb dX5_digest_135 rfl (lv_at hl 1 rfl) ?_
                            refine va_get (D := D) (ci := 5) (v := .long 34873861629925049) (C := RX5) (T := TX5) (N := 30) hx hb hts hw_X5 hown hK hP 0 rfl rfl 29 (by decide) f_275 (fun _ h9 => h9) rfl dX5_digest_136 ?_
                            have hP9 := hP.sub (ws' := [(m0, .inr (5, [.int 0, .int 0, .ref kO, .ref lO, .int 0, .int 0, .int 0, .ref sC, .ref sW, .ref sD, .int 0, .ref pG, .int 0, .int 0, .ref wO, .ref fO, .ref mO, .ref cO, .long 0, .ref th, .int 0, .int 0, .int 0, .int 0, .ref kK, .ref kL, .ref kC, .ref kW, .ref kD, .long 34873861629925049]))]) [0] rfl
                            have hD9 := hD.sub (ws' := [(m0, .inr (5, [.int 0, .int 0, .ref kO, .ref lO, .int 0, .int 0, .int 0, .ref sC, .ref sW, .ref sD, .int 0, .ref pG, .int 0, .int 0, .ref wO, .ref fO, .ref mO, .ref cO, .long 0, .ref th, .int 0, .int 0, .int 0, .int 0, .ref kK, .ref kL, .ref kC, .ref kW, .ref kD, .long 34873861629925049]))]) [0] (by decide +kernel) rfl
                            exact W.lret (v := 34873861629925049) hx hb hr (fun t9 ht9 hW9 => ⟨⟨34873861629925049, [(m0, .inr (5, [.int 0, .int 0, .ref kO, .ref lO, .int 0, .int 0, .int 0, .ref sC, .ref sW, .ref sD, .int 0, .ref pG, .int 0, .int 0, .ref wO, .ref fO, .ref mO, .ref cO, .long 0, .ref th, .int 0, .int 0, .int 0, .int 0, .ref kK, .ref kL, .ref kC, .ref kW, .ref kD, .long 34873861629925049]))], rfl, ⟨rfl, rfl⟩, by rw [ht9]; exact hP9, hD9⟩, hS.F ht9⟩) hS.2.2 dX5_digest_139
                          · exact absurd c_116 (by decide)
      · exact absurd c_91 (by decide)
    · exact absurd c_77 (by decide)
  · exact absurd c_14 (by decide)
