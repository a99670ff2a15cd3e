def q_X5_at (cy : Nat → ClassId) (m0 : Nat) (kO : Nat) (lO : Nat) (sC : Nat) (sW : Nat) (sD : Nat) (pG : Nat) (wO : Nat) (fO : Nat) (mO : Nat) (cO : Nat) (th : Nat) (kK : Nat) (kL : Nat) (kC : Nat) (kW : Nat) (kD : Nat) (tw : Nat) (cb : Nat) (tu : Nat) (ak : Nat) (se : Nat) (pl : Nat) (iw : Int32) (nc : Nat) (sn : Int64) (ik : Int32) (kt : Nat) (ku : Nat) (ks : Nat) (hh : Int64) (mp : Nat → Nat) (j9 : Nat) : Int32 → va_W → Prop := fun (r : Int32) (u : va_W) => u = [(m0, .inr (5, [.int (nI tw), .int (nI cb), .ref kO, .ref lO, .int (nI tu), .int (nI ak), .int (nI se), .ref sC, .ref sW, .ref sD, .int (nI pl), .ref pG, .int iw, .int (nI nc), .ref wO, .ref fO, .ref mO, .ref cO, .long sn, .ref th, .int ik, .int (nI kt), .int (nI ku), .int (nI ks), .ref kK, .ref kL, .ref kC, .ref kW, .ref kD, .long hh])), (pG, .inl (cy 1, 26, .inl (fun j => nI (mp j))))] ∧ r = nI (amF pl mp j9)
set_option maxHeartbeats 4000000 in
set_option maxRecDepth 100000 in
theorem c_X5_at (l : Launch) (D : va_G) (cy : Nat → ClassId) (zz : Nat) (m0 : Nat) (kO : Nat) (lO : Nat) (sC : Nat) (sW : Nat) (sD : Nat) (pG : Nat) (wO : Nat) (fO : Nat) (mO : Nat) (cO : Nat) (th : Nat) (kK : Nat) (kL : Nat) (kC : Nat) (kW : Nat) (kD : Nat) (tw : Nat) (cb : Nat) (tu : Nat) (ak : Nat) (se : Nat) (pl : Nat) (iw : Int32) (nc : Nat) (sn : Int64) (ik : Int32) (kt : Nat) (ku : Nat) (ks : Nat) (hh : Int64) (mp : Nat → Nat) (j9 : Nat) (hpl : pl ≤ 26) (hj9 : j9 < 2 ^ 31) : Met l yX5_at wsX5_at ({ frames := 0, cells := 0, slots := 0, locals := 0 } : Room) (va_Pc [.ref m0, .int (nI j9)] (cpre D cy [(m0, .inr (5, [.int (nI tw), .int (nI cb), .ref kO, .ref lO, .int (nI tu), .int (nI ak), .int (nI se), .ref sC, .ref sW, .ref sD, .int (nI pl), .ref pG, .int iw, .int (nI nc), .ref wO, .ref fO, .ref mO, .ref cO, .long sn, .ref th, .int ik, .int (nI kt), .int (nI ku), .int (nI ks), .ref kK, .ref kL, .ref kC, .ref kW, .ref kD, .long hh])), (pG, .inl (cy 1, 26, .inl (fun j => nI (mp j))))] zz)) (va_Qi (q_X5_at cy m0 kO lO sC sW sD pG wO fO mO cO th kK kL kC kW kD tw cb tu ak se pl iw nc sn ik kt ku ks hh mp j9) (cpost D (va_A [(m0, .inr (5, [.int (nI tw), .int (nI cb), .ref kO, .ref lO, .int (nI tu), .int (nI ak), .int (nI se), .ref sC, .ref sW, .ref sD, .int (nI pl), .ref pG, .int iw, .int (nI nc), .ref wO, .ref fO, .ref mO, .ref cO, .long sn, .ref th, .int ik, .int (nI kt), .int (nI ku), .int (nI ks), .ref kK, .ref kL, .ref kC, .ref kW, .ref kD, .long hh])), (pG, .inl (cy 1, 26, .inl (fun j => nI (mp j))))] zz)) (va_A [(m0, .inr (5, [.int (nI tw), .int (nI cb), .ref kO, .ref lO, .int (nI tu), .int (nI ak), .int (nI se), .ref sC, .ref sW, .ref sD, .int (nI pl), .ref pG, .int iw, .int (nI nc), .ref wO, .ref fO, .ref mO, .ref cO, .long sn, .ref th, .int ik, .int (nI kt), .int (nI ku), .int (nI ks), .ref kK, .ref kL, .ref kC, .ref kW, .ref kD, .long hh])), (pG, .inl (cy 1, 26, .inl (fun j => nI (mp j))))] zz)) 0 0 (va_A [(m0, .inr (5, [.int (nI tw), .int (nI cb), .ref kO, .ref lO, .int (nI tu), .int (nI ak), .int (nI se), .ref sC, .ref sW, .ref sD, .int (nI pl), .ref pG, .int iw, .int (nI nc), .ref wO, .ref fO, .ref mO, .ref cO, .long sn, .ref th, .int ik, .int (nI kt), .int (nI ku), .int (nI ks), .ref kK, .ref kL, .ref kC, .ref kW, .ref kD, .long hh])), (pG, .inl (cy 1, 26, .inl (fun j => nI (mp j))))] zz) := by
  refine Met.ofW (cc := cX5_at) (maxL := 2) (ret := (some .int)) (by decide) rfl ?_
  intro p e s m args below meth c s₁ B hml hv
  obtain ⟨rfl, hsz, hP, hD0, hX⟩ := hv
  have hx := B.exec
  have hb := B.bytes
  have hr := B.returns
  have hts := atoms_spec (ws := wsX5_at) B.pre
  have hown : s.vm.findClass RX5 = some m.cls := findClass_of_methodNamed B.named
  have hlocks := B.notSynchronized
  subst hsz
  have hD := hD0.self (sz := s.heap.size)
  generalize hAe : va_A [(m0, .inr (5, [.int (nI tw), .int (nI cb), .ref kO, .ref lO, .int (nI tu), .int (nI ak), .int (nI se), .ref sC, .ref sW, .ref sD, .int (nI pl), .ref pG, .int iw, .int (nI nc), .ref wO, .ref fO, .ref mO, .ref cO, .long sn, .ref th, .int ik, .int (nI kt), .int (nI ku), .int (nI ks), .ref kK, .ref kL, .ref kC, .ref kW, .ref kD, .long hh])), (pG, .inl (cy 1, 26, .inl (fun j => nI (mp j))))] s.heap.size = A at hD hX ⊢
  have hA : ∀ q : Nat, s.heap.size ≤ q → A q := fun q h => by rw [← hAe]; exact Or.inr h
  obtain ⟨H, hH⟩ : ∃ H : Heap, H = s.heap := ⟨_, rfl⟩
  have hS : va_S A s.heap H [] := hH ▸ va_S.rf
  have hK := hX.1
  have hP : va_P D vwCl [(m0, .inr (5, [.int (nI tw), .int (nI cb), .ref kO, .ref lO, .int (nI tu), .int (nI ak), .int (nI se), .ref sC, .ref sW, .ref sD, .int (nI pl), .ref pG, .int iw, .int (nI nc), .ref wO, .ref fO, .ref mO, .ref cO, .long sn, .ref th, .int ik, .int (nI kt), .int (nI ku), .int (nI ks), .ref kK, .ref kL, .ref kC, .ref kW, .ref kD, .long hh])), (pG, .inl (cy 1, 26, .inl (fun j => nI (mp j))))] H := hH ▸ hP
  rw [← hH]
  have hw_X5 : ∀ w ∈ wsX50, w ∈ wsX5_at := chX5 (by decide +kernel)
  have f_63 := hts (.fieldLink RX5 63 "CubeTowerModel" "pageLength" "I") (inC wa_267 (by decide +kernel))
  have f_25 := hts (.fieldLink RX5 25 "CubeTowerModel" "page" "[B") (inC wa_207 (by decide +kernel))
  have hl := lv_entry ([.ref m0, .int (nI j9)]) (n := 2) (Nat.le_of_ble_eq_true rfl)
  rw [lg_entry_eq]
  generalize (lg_sl ([.ref m0, .int (nI j9)]) ++ List.replicate (2 - (lg_sl ([.ref m0, .int (nI j9)])).length) Slot.unset).toArray = ls at hl ⊢
  have hl : lv_has ls 2 [(0, .ref m0), (1, .int (nI j9))] := hl
  refine lv_iload_n hx hb dX5_at_0 rfl (lv_at hl 1 rfl) ?_
  refine lv_aload_n hx hb dX5_at_1 rfl (lv_at hl 0 rfl) ?_
  refine va_get (D := D) (ci := 5) (v := .int (nI pl)) (C := RX5) (T := TX5) (N := 30) hx hb hts hw_X5 hown hK hP 0 rfl rfl 10 (by decide) f_63 (fun _ h9 => h9) rfl dX5_at_2 ?_
  refine lv_icmp_ge (tgt := 17) hx hb dX5_at_5 (by decide) (fun c_5 => ?_) (fun c_5 => ?_)
  · have hj : ¬ j9 < pl := Nat.not_lt.mpr (nI_leN (by omega) c_5)
    refine lv_iconst (v := 0) hx hb dX5_at_17 (by decide) ?_
    have hP9 := hP.sub (ws' := [(m0, .inr (5, [.int (nI tw), .int (nI cb), .ref kO, .ref lO, .int (nI tu), .int (nI ak), .int (nI se), .ref sC, .ref sW, .ref sD, .int (nI pl), .ref pG, .int iw, .int (nI nc), .ref wO, .ref fO, .ref mO, .ref cO, .long sn, .ref th, .int ik, .int (nI kt), .int (nI ku), .int (nI ks), .ref kK, .ref kL, .ref kC, .ref kW, .ref kD, .long hh])), (pG, .inl (cy 1, 26, .inl (fun j => nI (mp j))))]) [0, 1] rfl
    have hD9 := hD.sub (ws' := [(m0, .inr (5, [.int (nI tw), .int (nI cb), .ref kO, .ref lO, .int (nI tu), .int (nI ak), .int (nI se), .ref sC, .ref sW, .ref sD, .int (nI pl), .ref pG, .int iw, .int (nI nc), .ref wO, .ref fO, .ref mO, .ref cO, .long sn, .ref th, .int ik, .int (nI kt), .int (nI ku), .int (nI ks), .ref kK, .ref kL, .ref kC, .ref kW, .ref kD, .long hh])), (pG, .inl (cy 1, 26, .inl (fun j => nI (mp j))))]) [0, 1] (by decide +kernel) rfl
    exact W.iret (v := 0) hx hb hr (fun t9 ht9 hW9 => ⟨⟨0, [(m0, .inr (5, [.int (nI tw), .int (nI cb), .ref kO, .ref lO, .int (nI tu), .int (nI ak), .int (nI se), .ref sC, .ref sW, .ref sD, .int (nI pl), .ref pG, .int iw, .int (nI nc), .ref wO, .ref fO, .ref mO, .ref cO, .long sn, .ref th, .int ik, .int (nI kt), .int (nI ku), .int (nI ks), .ref kK, .ref kL, .ref kC, .ref kW, .ref kD, .long hh])), (pG, .inl (cy 1, 26, .inl (fun j => nI (mp j))))], rfl, ⟨rfl, (congrArg nI (if_neg hj)).symm⟩, by rw [ht9]; exact hP9, hD9⟩, hS.F ht9⟩) hS.2.2 dX5_at_18
  · have hj : j9 < pl := nI_ltN hj9 c_5
    refine lv_aload_n hx hb dX5_at_8 rfl (lv_at hl 0 rfl) ?_
    refine va_get (D := D) (ci := 5) (v := .ref pG) (C := RX5) (T := TX5) (N := 30) hx hb hts hw_X5 hown hK hP 0 rfl rfl 11 (by decide) f_25 (fun _ h9 => h9) rfl dX5_at_9 ?_
    refine lv_iload_n hx hb dX5_at_12 rfl (lv_at hl 1 rfl) ?_
    refine va_bald hx hb hK hP 1 1 rfl rfl (nI_in (by omega) (by decide)) dX5_at_13 ?_
    refine lv_topi (fun y1 ey1 => ?_)
    obtain rfl : y1 = nI (mp j9) := ey1.trans (congrArg (fun j => nI (mp j)) (nI_clamp hj9))
    refine lv_goto (tgt := 18) hx hb dX5_at_14 (by decide) ?_
    have hP9 := hP.sub (ws' := [(m0, .inr (5, [.int (nI tw), .int (nI cb), .ref kO, .ref lO, .int (nI tu), .int (nI ak), .int (nI se), .ref sC, .ref sW, .ref sD, .int (nI pl), .ref pG, .int iw, .int (nI nc), .ref wO, .ref fO, .ref mO, .ref cO, .long sn, .ref th, .int ik, .int (nI kt), .int (nI ku), .int (nI ks), .ref kK, .ref kL, .ref kC, .ref kW, .ref kD, .long hh])), (pG, .inl (cy 1, 26, .inl (fun j => nI (mp j))))]) [0, 1] rfl
    have hD9 := hD.sub (ws' := [(m0, .inr (5, [.int (nI tw), .int (nI cb), .ref kO, .ref lO, .int (nI tu), .int (nI ak), .int (nI se), .ref sC, .ref sW, .ref sD, .int (nI pl), .ref pG, .int iw, .int (nI nc), .ref wO, .ref fO, .ref mO, .ref cO, .long sn, .ref th, .int ik, .int (nI kt), .int (nI ku), .int (nI ks), .ref kK, .ref kL, .ref kC, .ref kW, .ref kD, .long hh])), (pG, .inl (cy 1, 26, .inl (fun j => nI (mp j))))]) [0, 1] (by decide +kernel) rfl
    exact W.iret (v := nI (mp j9)) hx hb hr (fun t9 ht9 hW9 => ⟨⟨nI (mp j9), [(m0, .inr (5, [.int (nI tw), .int (nI cb), .ref kO, .ref lO, .int (nI tu), .int (nI ak), .int (nI se), .ref sC, .ref sW, .ref sD, .int (nI pl), .ref pG, .int iw, .int (nI nc), .ref wO, .ref fO, .ref mO, .ref cO, .long sn, .ref th, .int ik, .int (nI kt), .int (nI ku), .int (nI ks), .ref kK, .ref kL, .ref kC, .ref kW, .ref kD, .long hh])), (pG, .inl (cy 1, 26, .inl (fun j => nI (mp j))))], rfl, ⟨rfl, (congrArg nI (if_pos hj)).symm⟩, by rw [ht9]; exact hP9, hD9⟩, hS.F ht9⟩) hS.2.2 dX5_at_18
def q_X5_letter (cy : Nat → ClassId) (m0 : Nat) (kO : Nat) (lO : Nat) (sC : Nat) (sW : Nat) (sD : Nat) (pG : Nat) (wO : Nat) (fO : Nat) (mO : Nat) (cO : Nat) (th : Nat) (kK : Nat) (kL : Nat) (kC : Nat) (kW : Nat) (kD : Nat) (tw : Nat) (cb : Nat) (tu : Nat) (ak : Nat) (se : Nat) (pl : Nat) (iw : Int32) (nc : Nat) (sn : Int64) (ik : Int32) (kt : Nat) (ku : Nat) (ks : Nat) (hh : Int64) (mp : Nat → Nat) (cu : Int32) : Int32 → va_W → Prop := fun (r : Int32) (u : va_W) => ∃ (l2 : Nat), ∃ (m2 : Nat → Nat), u = [(m0, .inr (5, [.int (nI tw), .int (nI cb), .ref kO, .ref lO, .int (nI tu), .int (nI ak), .int (nI se), .ref sC, .ref sW, .ref sD, .int (nI l2), .ref pG, .int iw, .int (nI nc), .ref wO, .ref fO, .ref mO, .ref cO, .long sn, .ref th, .int ik, .int (nI kt), .int (nI ku), .int (nI ks), .ref kK, .ref kL, .ref kC, .ref kW, .ref kD, .long hh])), (pG, .inl (cy 1, 26, .inl (fun j => nI (m2 j))))] ∧ (((cu < 32 ∨ ¬ cu ≤ 126) ∧ r = -102 ∧ l2 = pl ∧ m2 = mp) ∨ (¬ (cu < 32 ∨ ¬ cu ≤ 126) ∧ pl = 26 ∧ r = -104 ∧ l2 = pl ∧ m2 = mp) ∨ (∃ n : Nat, n < 127 ∧ 32 ≤ n ∧ cu = nI n ∧ pl < 26 ∧ r = nI (pl + 1) ∧ l2 = pl + 1 ∧ m2 = va_up mp pl n))
set_option maxHeartbeats 4000000 in
set_option maxRecDepth 100000 in
theorem c_X5_letter (l : Launch) (D : va_G) (cy : Nat → ClassId) (zz : Nat) (m0 : Nat) (kO : Nat) (lO : Nat) (sC : Nat) (sW : Nat) (sD : Nat) (pG : Nat) (wO : Nat) (fO : Nat) (mO : Nat) (cO : Nat) (th : Nat) (kK : Nat) (kL : Nat) (kC : Nat) (kW : Nat) (kD : Nat) (tw : Nat) (cb : Nat) (tu : Nat) (ak : Nat) (se : Nat) (pl : Nat) (iw : Int32) (nc : Nat) (sn : Int64) (ik : Int32) (kt : Nat) (ku : Nat) (ks : Nat) (hh : Int64) (mp : Nat → Nat) (cu : Int32) (hpl : pl ≤ 26) : Met l yX5_letter wsX5_letter ({ frames := 1, cells := 0, slots := 0, locals := 22 } : Room) (va_Pc [.ref m0, .int cu] (cpre D cy [(m0, .inr (5, [.int (nI tw), .int (nI cb), .ref kO, .ref lO, .int (nI tu), .int (nI ak), .int (nI se), .ref sC, .ref sW, .ref sD, .int (nI pl), .ref pG, .int iw, .int (nI nc), .ref wO, .ref fO, .ref mO, .ref cO, .long sn, .ref th, .int ik, .int (nI kt), .int (nI ku), .int (nI ks), .ref kK, .ref kL, .ref kC, .ref kW, .ref kD, .long hh])), (pG, .inl (cy 1, 26, .inl (fun j => nI (mp j))))] zz)) (va_Qi (q_X5_letter cy m0 kO lO sC sW sD pG wO fO mO cO th kK kL kC kW kD tw cb tu ak se pl iw nc sn ik kt ku ks hh mp cu) (cpost D (va_A [(m0, .inr (5, [.int (nI tw), .int (nI cb), .ref kO, .ref lO, .int (nI tu), .int (nI ak), .int (nI se), .ref sC, .ref sW, .ref sD, .int (nI pl), .ref pG, .int iw, .int (nI nc), .ref wO, .ref fO, .ref mO, .ref cO, .long sn, .ref th, .int ik, .int (nI kt), .int (nI ku), .int (nI ks), .ref kK, .ref kL, .ref kC, .ref kW, .ref kD, .long hh])), (pG, .inl (cy 1, 26, .inl (fun j => nI (mp j))))] zz)) (va_A [(m0, .inr (5, [.int (nI tw), .int (nI cb), .ref kO, .ref lO, .int (nI tu), .int (nI ak), .int (nI se), .ref sC, .ref sW, .ref sD, .int (nI pl), .ref pG, .int iw, .int (nI nc), .ref wO, .ref fO, .ref mO, .ref cO, .long sn, .ref th, .int ik, .int (nI kt), .int (nI ku), .int (nI ks), .ref kK, .ref kL, .ref kC, .ref kW, .ref kD, .long hh])), (pG, .inl (cy 1, 26, .inl (fun j => nI (mp j))))] zz)) 0 0 (va_A [(m0, .inr (5, [.int (nI tw), .int (nI cb), .ref kO, .ref lO, .int (nI tu), .int (nI ak), .int (nI se), .ref sC, .ref sW, .ref sD, .int (nI pl), .ref pG, .int iw, .int (nI nc), .ref wO, .ref fO, .ref mO, .ref cO, .long sn, .ref th, .int ik, .int (nI kt), .int (nI ku), .int (nI ks), .ref kK, .ref kL, .ref kC, .ref kW, .ref kD, .long hh])), (pG, .inl (cy 1, 26, .inl (fun j => nI (mp j))))] zz) := by
  refine Met.ofW (cc := cX5_letter) (maxL := 2) (ret := (some .int)) (by decide) rfl ?_
  intro p e s m args below meth c s₁ B hml hv
  obtain ⟨rfl, hsz, hP, hD0, hX⟩ := hv
  have hx := B.exec
  have hb := B.bytes
  have hr := B.returns
  have hts := atoms_spec (ws := wsX5_letter) B.pre
  have hown : s.vm.findClass RX5 = some m.cls := findClass_of_methodNamed B.named
  have hlocks := B.notSynchronized
  subst hsz
  have hD := hD0.self (sz := s.heap.size)
  generalize hAe : va_A [(m0, .inr (5, [.int (nI tw), .int (nI cb), .ref kO, .ref lO, .int (nI tu), .int (nI ak), .int (nI se), .ref sC, .ref sW, .ref sD, .int (nI pl), .ref pG, .int iw, .int (nI nc), .ref wO, .ref fO, .ref mO, .ref cO, .long sn, .ref th, .int ik, .int (nI kt), .int (nI ku), .int (nI ks), .ref kK, .ref kL, .ref kC, .ref kW, .ref kD, .long hh])), (pG, .inl (cy 1, 26, .inl (fun j => nI (mp j))))] s.heap.size = A at hD hX ⊢
  have hA : ∀ q : Nat, s.heap.size ≤ q → A q := fun q h => by rw [← hAe]; exact Or.inr h
  obtain ⟨H, hH⟩ : ∃ H : Heap, H = s.heap := ⟨_, rfl⟩
  have hS : va_S A s.heap H [] := hH ▸ va_S.rf
  have hK := hX.1
  have hP : va_P D vwCl [(m0, .inr (5, [.int (nI tw), .int (nI cb), .ref kO, .ref lO, .int (nI tu), .int (nI ak), .int (nI se), .ref sC, .ref sW, .ref sD, .int (nI pl), .ref pG, .int iw, .int (nI nc), .ref wO, .ref fO, .ref mO, .ref cO, .long sn, .ref th, .int ik, .int (nI kt), .int (nI ku), .int (nI ks), .ref kK, .ref kL, .ref kC, .ref kW, .ref kD, .long hh])), (pG, .inl (cy 1, 26, .inl (fun j => nI (mp j))))] H := hH ▸ hP
  rw [← hH]
  have hw_X5 : ∀ w ∈ wsX50, w ∈ wsX5_letter := chX5 (by decide +kernel)
  have f_63 := hts (.fieldLink RX5 63 "CubeTowerModel" "pageLength" "I") (inC wa_267 (by decide +kernel))
  have f_25 := hts (.fieldLink RX5 25 "CubeTowerModel" "page" "[B") (inC wa_207 (by decide +kernel))
  have hl := lv_entry ([.ref m0, .int cu]) (n := 2) (Nat.le_of_ble_eq_true rfl)
  rw [lg_entry_eq]
  generalize (lg_sl ([.ref m0, .int cu]) ++ List.replicate (2 - (lg_sl ([.ref m0, .int cu])).length) Slot.unset).toArray = ls at hl ⊢
  have hl : lv_has ls 2 [(0, .ref m0), (1, .int cu)] := hl
  refine lv_iload_n hx hb dX5_letter_0 rfl (lv_at hl 1 rfl) ?_
  refine lv_bipush (v := 32) hx hb dX5_letter_1 (by decide) ?_
  refine lv_bipush (v := 126) hx hb dX5_letter_3 (by decide) ?_
  refine kc_i (wc := []) (wr := [(m0, .inr (5, [.int (nI tw), .int (nI cb), .ref kO, .ref lO, .int (nI tu), .int (nI ak), .int (nI se), .ref sC, .ref sW, .ref sD, .int (nI pl), .ref pG, .int iw, .int (nI nc), .ref wO, .ref fO, .ref mO, .ref cO, .long sn, .ref th, .int ik, .int (nI kt), .int (nI ku), .int (nI ks), .ref kK, .ref kL, .ref kC, .ref kW, .ref kD, .long hh])), (pG, .inl (cy 1, 26, .inl (fun j => nI (mp j))))]) (va_runS (As := [.int cu, .int 32, .int 126]) (rest := []) ⟨hx, hb, hml, hown, hts⟩ (c_X5_within l D cy H.size cu 32 126 ) (va_cwS 3 hts gX5_letter_X5_within rfl rfl rfl hdc_X5_within.2 ⟨Nat.le_of_ble_eq_true rfl, Nat.le_of_ble_eq_true rfl⟩) (cpre_S (wc := []) hX hP hD hS hA [] (by decide +kernel) rfl) rfl rfl hl.1 rfl (lv_room (Nat.le_of_ble_eq_true rfl)) dX5_letter_5 ⟨Nat.le_of_ble_eq_true rfl, Nat.le_of_ble_eq_true rfl⟩) hP hD hS hA [] [0, 1] rfl rfl (by decide +kernel) (by decide +kernel) (fun ww u1 H locs hw hP hD hS => ?_)
  obtain ⟨hu, hww⟩ := hw
  subst hu
  have hP : va_P D vwCl [(m0, .inr (5, [.int (nI tw), .int (nI cb), .ref kO, .ref lO, .int (nI tu), .int (nI ak), .int (nI se), .ref sC, .ref sW, .ref sD, .int (nI pl), .ref pG, .int iw, .int (nI nc), .ref wO, .ref fO, .ref mO, .ref cO, .long sn, .ref th, .int ik, .int (nI kt), .int (nI ku), .int (nI ks), .ref kK, .ref kL, .ref kC, .ref kW, .ref kD, .long hh])), (pG, .inl (cy 1, 26, .inl (fun j => nI (mp j))))] H := hP
  have hD : va_D A [(m0, .inr (5, [.int (nI tw), .int (nI cb), .ref kO, .ref lO, .int (nI tu), .int (nI ak), .int (nI se), .ref sC, .ref sW, .ref sD, .int (nI pl), .ref pG, .int iw, .int (nI nc), .ref wO, .ref fO, .ref mO, .ref cO, .long sn, .ref th, .int ik, .int (nI kt), .int (nI ku), .int (nI ks), .ref kK, .ref kL, .ref kC, .ref kW, .ref kD, .long hh])), (pG, .inl (cy 1, 26, .inl (fun j => nI (mp j))))] := hD
  refine lv_if_ne (tgt := 14) hx hb dX5_letter_8 (by decide) (fun c_8 => ?_) (fun c_8 => ?_)
  · refine lv_aload_n hx hb dX5_letter_14 rfl (lv_at hl 0 rfl) ?_
    refine va_get (D := D) (ci := 5) (v := .int (nI pl)) (C := RX5) (T := TX5) (N := 30) hx hb hts hw_X5 hown hK hP 0 rfl rfl 10 (by decide) f_63 (fun _ h9 => h9) rfl dX5_letter_15 ?_
    refine lv_bipush (v := 26) hx hb dX5_letter_18 (by decide) ?_
    refine lv_icmp_ne (tgt := 26) hx hb dX5_letter_20 (by decide) (fun c_20 => ?_) (fun c_20 => ?_)
    · have hl6 : pl < 26 := by
        rcases Nat.lt_or_ge pl 26 with q | q
        · exact q
        · exact absurd (show nI pl = 26 by rw [show pl = 26 by omega]; rfl) c_20
      obtain ⟨n, hn, hn2, rfl⟩ := rng95 (wn1 hww c_8)
      refine lv_aload_n hx hb dX5_letter_26 rfl (lv_at hl 0 rfl) ?_
      refine va_get (D := D) (ci := 5) (v := .ref pG) (C := RX5) (T := TX5) (N := 30) hx hb hts hw_X5 hown hK hP 0 rfl rfl 11 (by decide) f_25 (fun _ h9 => h9) rfl dX5_letter_27 ?_
      refine lv_aload_n hx hb dX5_letter_30 rfl (lv_at hl 0 rfl) ?_
      refine va_get (D := D) (ci := 5) (v := .int (nI pl)) (C := RX5) (T := TX5) (N := 30) hx hb hts hw_X5 hown hK hP 0 rfl rfl 10 (by decide) f_63 (fun _ h9 => h9) rfl dX5_letter_31 ?_
      refine lv_iload_n hx hb dX5_letter_34 rfl (lv_at hl 1 rfl) ?_
      refine lv_i2b (v := (nI n).toInt8.toInt32) hx hb dX5_letter_35 rfl ?_
      refine lv_topi (fun y2 ey2 => ?_)
      obtain rfl : y2 = nI n := ey2.trans (b_i8 n (by omega))
      refine va_bast hx hb hK hP hD hS 1 1 rfl rfl (nI_in (by omega) (by decide)) dX5_letter_36 (fun H locs hP hD hS => ?_)
      rw [show (nI pl).toNatClampNeg = pl from nI_clamp (by omega)] at hP hD
      have hP : va_P D vwCl [(m0, .inr (5, [.int (nI tw), .int (nI cb), .ref kO, .ref lO, .int (nI tu), .int (nI ak), .int (nI se), .ref sC, .ref sW, .ref sD, .int (nI pl), .ref pG, .int iw, .int (nI nc), .ref wO, .ref fO, .ref mO, .ref cO, .long sn, .ref th, .int ik, .int (nI kt), .int (nI ku), .int (nI ks), .ref kK, .ref kL, .ref kC, .ref kW, .ref kD, .long hh])), (pG, .inl (cy 1, 26, .inl (upd (fun j => nI (mp j)) pl (vp_nar .byte (nI n)))))] H := hP
      have hD : va_D A [(m0, .inr (5, [.int (nI tw), .int (nI cb), .ref kO, .ref lO, .int (nI tu), .int (nI ak), .int (nI se), .ref sC, .ref sW, .ref sD, .int (nI pl), .ref pG, .int iw, .int (nI nc), .ref wO, .ref fO, .ref mO, .ref cO, .long sn, .ref th, .int ik, .int (nI kt), .int (nI ku), .int (nI ks), .ref kK, .ref kL, .ref kC, .ref kW, .ref kD, .long hh])), (pG, .inl (cy 1, 26, .inl (upd (fun j => nI (mp j)) pl (vp_nar .byte (nI n)))))] := hD
      rw [nar_b n (by omega), updN mp pl n] at hP hD
      have hP : va_P D vwCl [(m0, .inr (5, [.int (nI tw), .int (nI cb), .ref kO, .ref lO, .int (nI tu), .int (nI ak), .int (nI se), .ref sC, .ref sW, .ref sD, .int (nI pl), .ref pG, .int iw, .int (nI nc), .ref wO, .ref fO, .ref mO, .ref cO, .long sn, .ref th, .int ik, .int (nI kt), .int (nI ku), .int (nI ks), .ref kK, .ref kL, .ref kC, .ref kW, .ref kD, .long hh])), (pG, .inl (cy 1, 26, .inl (fun j => nI ((va_up mp pl n) j))))] H := hP
      have hD : va_D A [(m0, .inr (5, [.int (nI tw), .int (nI cb), .ref kO, .ref lO, .int (nI tu), .int (nI ak), .int (nI se), .ref sC, .ref sW, .ref sD, .int (nI pl), .ref pG, .int iw, .int (nI nc), .ref wO, .ref fO, .ref mO, .ref cO, .long sn, .ref th, .int ik, .int (nI kt), .int (nI ku), .int (nI ks), .ref kK, .ref kL, .ref kC, .ref kW, .ref kD, .long hh])), (pG, .inl (cy 1, 26, .inl (fun j => nI ((va_up mp pl n) j))))] := hD
      refine lv_aload_n hx hb dX5_letter_37 rfl (lv_at hl 0 rfl) ?_
      refine lv_dup hx hb dX5_letter_38 rfl ?_
      refine va_get (D := D) (ci := 5) (v := .int (nI pl)) (C := RX5) (T := TX5) (N := 30) hx hb hts hw_X5 hown hK hP 0 rfl rfl 10 (by decide) f_63 (fun _ h9 => h9) rfl dX5_letter_39 ?_
      refine lv_iconst (v := 1) hx hb dX5_letter_42 (by decide) ?_
      refine lv_iadd hx hb dX5_letter_43 ?_
      refine lv_topi (fun y3 ey3 => ?_)
      obtain rfl : y3 = nI (pl + 1) := ey3.trans ((nI_succ pl).symm)
      refine va_put (D := D) (ci := 5) (v := .int (nI (pl + 1))) (ty := .int) (C := RX5) (T := TX5) (N := 30) hx hb hts hw_X5 tyX5 tyX5_ok nmX5 hown hK hP hD hS 0 rfl rfl 10 (by decide) f_63 (fun _ h9 => h9) rfl (tyX5_ok 10 (by decide)) rfl rfl (Nat.le_of_ble_eq_true rfl) dX5_letter_44 (fun H locs hP hD hS => ?_)
      have hP : va_P D vwCl [(m0, .inr (5, [.int (nI tw), .int (nI cb), .ref kO, .ref lO, .int (nI tu), .int (nI ak), .int (nI se), .ref sC, .ref sW, .ref sD, .int (nI (pl + 1)), .ref pG, .int iw, .int (nI nc), .ref wO, .ref fO, .ref mO, .ref cO, .long sn, .ref th, .int ik, .int (nI kt), .int (nI ku), .int (nI ks), .ref kK, .ref kL, .ref kC, .ref kW, .ref kD, .long hh])), (pG, .inl (cy 1, 26, .inl (fun j => nI ((va_up mp pl n) j))))] H := hP
      have hD : va_D A [(m0, .inr (5, [.int (nI tw), .int (nI cb), .ref kO, .ref lO, .int (nI tu), .int (nI ak), .int (nI se), .ref sC, .ref sW, .ref sD, .int (nI (pl + 1)), .ref pG, .int iw, .int (nI nc), .ref wO, .ref fO, .ref mO, .ref cO, .long sn, .ref th, .int ik, .int (nI kt), .int (nI ku), .int (nI ks), .ref kK, .ref kL, .ref kC, .ref kW, .ref kD, .long hh])), (pG, .inl (cy 1, 26, .inl (fun j => nI ((va_up mp pl n) j))))] := hD
      refine lv_aload_n hx hb dX5_letter_47 rfl (lv_at hl 0 rfl) ?_
      refine va_get (D := D) (ci := 5) (v := .int (nI (pl + 1))) (C := RX5) (T := TX5) (N := 30) hx hb hts hw_X5 hown hK hP 0 rfl rfl 10 (by decide) f_63 (fun _ h9 => h9) rfl dX5_letter_48 ?_
      have hP9 := hP.sub (ws' := [(m0, .inr (5, [.int (nI tw), .int (nI cb), .ref kO, .ref lO, .int (nI tu), .int (nI ak), .int (nI se), .ref sC, .ref sW, .ref sD, .int (nI (pl + 1)), .ref pG, .int iw, .int (nI nc), .ref wO, .ref fO, .ref mO, .ref cO, .long sn, .ref th, .int ik, .int (nI kt), .int (nI ku), .int (nI ks), .ref kK, .ref kL, .ref kC, .ref kW, .ref kD, .long hh])), (pG, .inl (cy 1, 26, .inl (fun j => nI ((va_up mp pl n) j))))]) [0, 1] rfl
      have hD9 := hD.sub (ws' := [(m0, .inr (5, [.int (nI tw), .int (nI cb), .ref kO, .ref lO, .int (nI tu), .int (nI ak), .int (nI se), .ref sC, .ref sW, .ref sD, .int (nI (pl + 1)), .ref pG, .int iw, .int (nI nc), .ref wO, .ref fO, .ref mO, .ref cO, .long sn, .ref th, .int ik, .int (nI kt), .int (nI ku), .int (nI ks), .ref kK, .ref kL, .ref kC, .ref kW, .ref kD, .long hh])), (pG, .inl (cy 1, 26, .inl (fun j => nI ((va_up mp pl n) j))))]) [0, 1] (by decide +kernel) rfl
      exact W.iret (v := nI (pl + 1)) hx hb hr (fun t9 ht9 hW9 => ⟨⟨nI (pl + 1), [(m0, .inr (5, [.int (nI tw), .int (nI cb), .ref kO, .ref lO, .int (nI tu), .int (nI ak), .int (nI se), .ref sC, .ref sW, .ref sD, .int (nI (pl + 1)), .ref pG, .int iw, .int (nI nc), .ref wO, .ref fO, .ref mO, .ref cO, .long sn, .ref th, .int ik, .int (nI kt), .int (nI ku), .int (nI ks), .ref kK, .ref kL, .ref kC, .ref kW, .ref kD, .long hh])), (pG, .inl (cy 1, 26, .inl (fun j => nI ((va_up mp pl n) j))))], rfl, ⟨(pl + 1), (va_up mp pl n), rfl, (Or.inr (Or.inr ⟨n, hn, hn2, rfl, hl6, rfl, rfl, rfl⟩))⟩, by rw [ht9]; exact hP9, hD9⟩, hS.F ht9⟩) hS.2.2 dX5_letter_51
    · have hl6 : pl = 26 := (nI_eq (a := pl) (b := 26) (by omega) (by decide)).mp c_20
      refine lv_bipush (v := (-104)) hx hb dX5_letter_23 (by decide) ?_
      have hP9 := hP.sub (ws' := [(m0, .inr (5, [.int (nI tw), .int (nI cb), .ref kO, .ref lO, .int (nI tu), .int (nI ak), .int (nI se), .ref sC, .ref sW, .ref sD, .int (nI pl), .ref pG, .int iw, .int (nI nc), .ref wO, .ref fO, .ref mO, .ref cO, .long sn, .ref th, .int ik, .int (nI kt), .int (nI ku), .int (nI ks), .ref kK, .ref kL, .ref kC, .ref kW, .ref kD, .long hh])), (pG, .inl (cy 1, 26, .inl (fun j => nI (mp j))))]) [0, 1] rfl
      have hD9 := hD.sub (ws' := [(m0, .inr (5, [.int (nI tw), .int (nI cb), .ref kO, .ref lO, .int (nI tu), .int (nI ak), .int (nI se), .ref sC, .ref sW, .ref sD, .int (nI pl), .ref pG, .int iw, .int (nI nc), .ref wO, .ref fO, .ref mO, .ref cO, .long sn, .ref th, .int ik, .int (nI kt), .int (nI ku), .int (nI ks), .ref kK, .ref kL, .ref kC, .ref kW, .ref kD, .long hh])), (pG, .inl (cy 1, 26, .inl (fun j => nI (mp j))))]) [0, 1] (by decide +kernel) rfl
      exact W.iret (v := (-104)) hx hb hr (fun t9 ht9 hW9 => ⟨⟨(-104), [(m0, .inr (5, [.int (nI tw), .int (nI cb), .ref kO, .ref lO, .int (nI tu), .int (nI ak), .int (nI se), .ref sC, .ref sW, .ref sD, .int (nI pl), .ref pG, .int iw, .int (nI nc), .ref wO, .ref fO, .ref mO, .ref cO, .long sn, .ref th, .int ik, .int (nI kt), .int (nI ku), .int (nI ks), .ref kK, .ref kL, .ref kC, .ref kW, .ref kD, .long hh])), (pG, .inl (cy 1, 26, .inl (fun j => nI (mp j))))], rfl, ⟨pl, mp, rfl, (Or.inr (Or.inl ⟨wn1 hww c_8, hl6, rfl, rfl, rfl⟩))⟩, by rw [ht9]; exact hP9, hD9⟩, hS.F ht9⟩) hS.2.2 dX5_letter_25
  · refine lv_bipush (v := (-102)) hx hb dX5_letter_11 (by decide) ?_
    have hP9 := hP.sub (ws' := [(m0, .inr (5, [.int (nI tw), .int (nI cb), .ref kO, .ref lO, .int (nI tu), .int (nI ak), .int (nI se), .ref sC, .ref sW, .ref sD, .int (nI pl), .ref pG, .int iw, .int (nI nc), .ref wO, .ref fO, .ref mO, .ref cO, .long sn, .ref th, .int ik, .int (nI kt), .int (nI ku), .int (nI ks), .ref kK, .ref kL, .ref kC, .ref kW, .ref kD, .long hh])), (pG, .inl (cy 1, 26, .inl (fun j => nI (mp j))))]) [0, 1] rfl
    have hD9 := hD.sub (ws' := [(m0, .inr (5, [.int (nI tw), .int (nI cb), .ref kO, .ref lO, .int (nI tu), .int (nI ak), .int (nI se), .ref sC, .ref sW, .ref sD, .int (nI pl), .ref pG, .int iw, .int (nI nc), .ref wO, .ref fO, .ref mO, .ref cO, .long sn, .ref th, .int ik, .int (nI kt), .int (nI ku), .int (nI ks), .ref kK, .ref kL, .ref kC, .ref kW, .ref kD, .long hh])), (pG, .inl (cy 1, 26, .inl (fun j => nI (mp j))))]) [0, 1] (by decide +kernel) rfl
    exact W.iret (v := (-102)) hx hb hr (fun t9 ht9 hW9 => ⟨⟨(-102), [(m0, .inr (5, [.int (nI tw), .int (nI cb), .ref kO, .ref lO, .int (nI tu), .int (nI ak), .int (nI se), .ref sC, .ref sW, .ref sD, .int (nI pl), .ref pG, .int iw, .int (nI nc), .ref wO, .ref fO, .ref mO, .ref cO, .long sn, .ref th, .int ik, .int (nI kt), .int (nI ku), .int (nI ks), .ref kK, .ref kL, .ref kC, .ref kW, .ref kD, .long hh])), (pG, .inl (cy 1, 26, .inl (fun j => nI (mp j))))], rfl, ⟨pl, mp, rfl, (Or.inl ⟨wn0 hww c_8, rfl, rfl, rfl⟩)⟩, by rw [ht9]; exact hP9, hD9⟩, hS.F ht9⟩) hS.2.2 dX5_letter_13
def q_X5_blank (cy : Nat → ClassId) (m0 : Nat) (kO : Nat) (lO : Nat) (sC : Nat) (sW : Nat) (sD : Nat) (pG : Nat) (wO : Nat) (fO : Nat) (mO : Nat) (cO : Nat) (th : Nat) (kK : Nat) (kL : Nat) (kC : Nat) (kW : Nat) (kD : Nat) (tw : Nat) (cb : Nat) (tu : Nat) (ak : Nat) (se : Nat) (pl : Nat) (iw : Int32) (nc : Nat) (sn : Int64) (ik : Int32) (kt : Nat) (ku : Nat) (ks : Nat) (hh : Int64) : Int32 → va_W → Prop := fun (r : Int32) (u : va_W) => u = [(m0, .inr (5, [.int (nI tw), .int (nI cb), .ref kO, .ref lO, .int (nI tu), .int (nI ak), .int (nI se), .ref sC, .ref sW, .ref sD, .int (nI 0), .ref pG, .int iw, .int (nI nc), .ref wO, .ref fO, .ref mO, .ref cO, .long sn, .ref th, .int ik, .int (nI kt), .int (nI ku), .int (nI ks), .ref kK, .ref kL, .ref kC, .ref kW, .ref kD, .long hh]))] ∧ r = nI pl
set_option maxHeartbeats 4000000 in
set_option maxRecDepth 100000 in
theorem c_X5_blank (l : Launch) (D : va_G) (cy : Nat → ClassId) (zz : Nat) (m0 : Nat) (kO : Nat) (lO : Nat) (sC : Nat) (sW : Nat) (sD : Nat) (pG : Nat) (wO : Nat) (fO : Nat) (mO : Nat) (cO : Nat) (th : Nat) (kK : Nat) (kL : Nat) (kC : Nat) (kW : Nat) (kD : Nat) (tw : Nat) (cb : Nat) (tu : Nat) (ak : Nat) (se : Nat) (pl : Nat) (iw : Int32) (nc : Nat) (sn : Int64) (ik : Int32) (kt : Nat) (ku : Nat) (ks : Nat) (hh : Int64) : Met l yX5_blank wsX5_blank ({ frames := 0, cells := 0, slots := 0, locals := 0 } : Room) (va_Pc [.ref m0] (cpre D cy [(m0, .inr (5, [.int (nI tw), .int (nI cb), .ref kO, .ref lO, .int (nI tu), .int (nI ak), .int (nI se), .ref sC, .ref sW, .ref sD, .int (nI pl), .ref pG, .int iw, .int (nI nc), .ref wO, .ref fO, .ref mO, .ref cO, .long sn, .ref th, .int ik, .int (nI kt), .int (nI ku), .int (nI ks), .ref kK, .ref kL, .ref kC, .ref kW, .ref kD, .long hh]))] zz)) (va_Qi (q_X5_blank cy m0 kO lO sC sW sD pG wO fO mO cO th kK kL kC kW kD tw cb tu ak se pl iw nc sn ik kt ku ks hh) (cpost D (va_A [(m0, .inr (5, [.int (nI tw), .int (nI cb), .ref kO, .ref lO, .int (nI tu), .int (nI ak), .int (nI se), .ref sC, .ref sW, .ref sD, .int (nI pl), .ref pG, .int iw, .int (nI nc), .ref wO, .ref fO, .ref mO, .ref cO, .long sn, .ref th, .int ik, .int (nI kt), .int (nI ku), .int (nI ks), .ref kK, .ref kL, .ref kC, .ref kW, .ref kD, .long hh]))] zz)) (va_A [(m0, .inr (5, [.int (nI tw), .int (nI cb), .ref kO, .ref lO, .int (nI tu), .int (nI ak), .int (nI se), .ref sC, .ref sW, .ref sD, .int (nI pl), .ref pG, .int iw, .int (nI nc), .ref wO, .ref fO, .ref mO, .ref cO, .long sn, .ref th, .int ik, .int (nI kt), .int (nI ku), .int (nI ks), .ref kK, .ref kL, .ref kC, .ref kW, .ref kD, .long hh]))] zz)) 0 0 (va_A [(m0, .inr (5, [.int (nI tw), .int (nI cb), .ref kO, .ref lO, .int (nI tu), .int (nI ak), .int (nI se), .ref sC, .ref sW, .ref sD, .int (nI pl), .ref pG, .int iw, .int (nI nc), .ref wO, .ref fO, .ref mO, .ref cO, .long sn, .ref th, .int ik, .int (nI kt), .int (nI ku), .int (nI ks), .ref kK, .ref kL, .ref kC, .ref kW, .ref kD, .long hh]))] zz) := by
  refine Met.ofW (cc := cX5_blank) (maxL := 2) (ret := (some .int)) (by decide) rfl ?_
  intro p e s m args below meth c s₁ B hml hv
  obtain ⟨rfl, hsz, hP, hD0, hX⟩ := hv
  have hx := B.exec
  have hb := B.bytes
  have hr := B.returns
  have hts := atoms_spec (ws := wsX5_blank) B.pre
  have hown : s.vm.findClass RX5 = some m.cls := findClass_of_methodNamed B.named
  have hlocks := B.notSynchronized
  subst hsz
  have hD := hD0.self (sz := s.heap.size)
  generalize hAe : va_A [(m0, .inr (5, [.int (nI tw), .int (nI cb), .ref kO, .ref lO, .int (nI tu), .int (nI ak), .int (nI se), .ref sC, .ref sW, .ref sD, .int (nI pl), .ref pG, .int iw, .int (nI nc), .ref wO, .ref fO, .ref mO, .ref cO, .long sn, .ref th, .int ik, .int (nI kt), .int (nI ku), .int (nI ks), .ref kK, .ref kL, .ref kC, .ref kW, .ref kD, .long hh]))] s.heap.size = A at hD hX ⊢
  have hA : ∀ q : Nat, s.heap.size ≤ q → A q := fun q h => by rw [← hAe]; exact Or.inr h
  obtain ⟨H, hH⟩ : ∃ H : Heap, H = s.heap := ⟨_, rfl⟩
  have hS : va_S A s.heap H [] := hH ▸ va_S.rf
  have hK := hX.1
  have hP : va_P D vwCl [(m0, .inr (5, [.int (nI tw), .int (nI cb), .ref kO, .ref lO, .int (nI tu), .int (nI ak), .int (nI se), .ref sC, .ref sW, .ref sD, .int (nI pl), .ref pG, .int iw, .int (nI nc), .ref wO, .ref fO, .ref mO, .ref cO, .long sn, .ref th, .int ik, .int (nI kt), .int (nI ku), .int (nI ks), .ref kK, .ref kL, .ref kC, .ref kW, .ref kD, .long hh]))] H := hH ▸ hP
  rw [← hH]
  have hw_X5 : ∀ w ∈ wsX50, w ∈ wsX5_blank := chX5 (by decide +kernel)
  have f_63 := hts (.fieldLink RX5 63 "CubeTowerModel" "pageLength" "I") (inC wa_267 (by decide +kernel))
  have hl := lv_entry ([.ref m0]) (n := 2) (Nat.le_of_ble_eq_true rfl)
  rw [lg_entry_eq]
  generalize (lg_sl ([.ref m0]) ++ List.replicate (2 - (lg_sl ([.ref m0])).length) Slot.unset).toArray = ls at hl ⊢
  have hl : lv_has ls 2 [(0, .ref m0)] := hl
  refine lv_aload_n hx hb dX5_blank_0 rfl (lv_at hl 0 rfl) ?_
  refine va_get (D := D) (ci := 5) (v := .int (nI pl)) (C := RX5) (T := TX5) (N := 30) hx hb hts hw_X5 hown hK hP 0 rfl rfl 10 (by decide) f_63 (fun _ h9 => h9) rfl dX5_blank_1 ?_
  refine lv_istore_n (lv' := [(1, .int (nI pl)), (0, .ref m0)]) hx hb dX5_blank_4 rfl hl (by decide) rfl (fun ls hl => ?_)
  refine lv_aload_n hx hb dX5_blank_5 rfl (lv_at hl 1 rfl) ?_
  refine lv_iconst (v := 0) hx hb dX5_blank_6 (by decide) ?_
  refine va_put (D := D) (ci := 5) (v := .int 0) (ty := .int) (C := RX5) (T := TX5) (N := 30) hx hb hts hw_X5 tyX5 tyX5_ok nmX5 hown hK hP hD hS 0 rfl rfl 10 (by decide) f_63 (fun _ h9 => h9) rfl (tyX5_ok 10 (by decide)) rfl rfl (Nat.le_of_ble_eq_true rfl) dX5_blank_7 (fun H locs hP hD hS => ?_)
  have hP : va_P D vwCl [(m0, .inr (5, [.int (nI tw), .int (nI cb), .ref kO, .ref lO, .int (nI tu), .int (nI ak), .int (nI se), .ref sC, .ref sW, .ref sD, .int 0, .ref pG, .int iw, .int (nI nc), .ref wO, .ref fO, .ref mO, .ref cO, .long sn, .ref th, .int ik, .int (nI kt), .int (nI ku), .int (nI ks), .ref kK, .ref kL, .ref kC, .ref kW, .ref kD, .long hh]))] H := hP
  have hD : va_D A [(m0, .inr (5, [.int (nI tw), .int (nI cb), .ref kO, .ref lO, .int (nI tu), .int (nI ak), .int (nI se), .ref sC, .ref sW, .ref sD, .int 0, .ref pG, .int iw, .int (nI nc), .ref wO, .ref fO, .ref mO, .ref cO, .long sn, .ref th, .int ik, .int (nI kt), .int (nI ku), .int (nI ks), .ref kK, .ref kL, .ref kC, .ref kW, .ref kD, .long hh]))] := hD
  refine lv_iload_n hx hb dX5_blank_10 rfl (lv_at hl 0 rfl) ?_
  have hP9 := hP.sub (ws' := [(m0, .inr (5, [.int (nI tw), .int (nI cb), .ref kO, .ref lO, .int (nI tu), .int (nI ak), .int (nI se), .ref sC, .ref sW, .ref sD, .int (nI 0), .ref pG, .int iw, .int (nI nc), .ref wO, .ref fO, .ref mO, .ref cO, .long sn, .ref th, .int ik, .int (nI kt), .int (nI ku), .int (nI ks), .ref kK, .ref kL, .ref kC, .ref kW, .ref kD, .long hh]))]) [0] rfl
  have hD9 := hD.sub (ws' := [(m0, .inr (5, [.int (nI tw), .int (nI cb), .ref kO, .ref lO, .int (nI tu), .int (nI ak), .int (nI se), .ref sC, .ref sW, .ref sD, .int (nI 0), .ref pG, .int iw, .int (nI nc), .ref wO, .ref fO, .ref mO, .ref cO, .long sn, .ref th, .int ik, .int (nI kt), .int (nI ku), .int (nI ks), .ref kK, .ref kL, .ref kC, .ref kW, .ref kD, .long hh]))]) [0] (by decide +kernel) rfl
  exact W.iret (v := nI pl) hx hb hr (fun t9 ht9 hW9 => ⟨⟨nI pl, [(m0, .inr (5, [.int (nI tw), .int (nI cb), .ref kO, .ref lO, .int (nI tu), .int (nI ak), .int (nI se), .ref sC, .ref sW, .ref sD, .int (nI 0), .ref pG, .int iw, .int (nI nc), .ref wO, .ref fO, .ref mO, .ref cO, .long sn, .ref th, .int ik, .int (nI kt), .int (nI ku), .int (nI ks), .ref kK, .ref kL, .ref kC, .ref kW, .ref kD, .long hh]))], rfl, ⟨rfl, rfl⟩, by rw [ht9]; exact hP9, hD9⟩, hS.F ht9⟩) hS.2.2 dX5_blank_11
def q_X5_isCube (cy : Nat → ClassId) (m0 : Nat) (kO : Nat) (lO : Nat) (sC : Nat) (sW : Nat) (sD : Nat) (pG : Nat) (wO : Nat) (fO : Nat) (mO : Nat) (cO : Nat) (th : Nat) (kK : Nat) (kL : Nat) (kC : Nat) (kW : Nat) (kD : Nat) (tw : Nat) (cb : Nat) (tu : Nat) (ak : Nat) (se : Nat) (pl : Nat) (iw : Int32) (nc : Nat) (sn : Int64) (ik : Int32) (kt : Nat) (ku : Nat) (ks : Nat) (hh : Int64) (cu : Int32) : Int32 → va_W → Prop := fun (r : Int32) (u : va_W) => u = [(m0, .inr (5, [.int (nI tw), .int (nI cb), .ref kO, .ref lO, .int (nI tu), .int (nI ak), .int (nI se), .ref sC, .ref sW, .ref sD, .int (nI pl), .ref pG, .int iw, .int (nI nc), .ref wO, .ref fO, .ref mO, .ref cO, .long sn, .ref th, .int ik, .int (nI kt), .int (nI ku), .int (nI ks), .ref kK, .ref kL, .ref kC, .ref kW, .ref kD, .long hh]))] ∧ r = (if hasC cb cu then 1 else 0)
set_option maxHeartbeats 4000000 in
set_option maxRecDepth 100000 in
theorem g_X5_isCube (l : Launch) (D : va_G) (cy : Nat → ClassId) (zz : Nat) (m0 : Nat) (kO : Nat) (lO : Nat) (sC : Nat) (sW : Nat) (sD : Nat) (pG : Nat) (wO : Nat) (fO : Nat) (mO : Nat) (cO : Nat) (th : Nat) (kK : Nat) (kL : Nat) (kC : Nat) (kW : Nat) (kD : Nat) (tw : Nat) (cb : Nat) (tu : Nat) (ak : Nat) (se : Nat) (pl : Nat) (iw : Int32) (nc : Nat) (sn : Int64) (ik : Int32) (kt : Nat) (ku : Nat) (ks : Nat) (hh : Int64) (cu : Int32) (hcb : cb = 0 ∨ cb = 2 ∨ cb = 3) : Met l yX5_isCube wsX5_isCube ({ frames := 1, cells := 0, slots := 0, locals := 22 } : Room) (va_Pc [.ref m0, .int cu] (cpre D cy [(m0, .inr (5, [.int (nI tw), .int (nI cb), .ref kO, .ref lO, .int (nI tu), .int (nI ak), .int (nI se), .ref sC, .ref sW, .ref sD, .int (nI pl), .ref pG, .int iw, .int (nI nc), .ref wO, .ref fO, .ref mO, .ref cO, .long sn, .ref th, .int ik, .int (nI kt), .int (nI ku), .int (nI ks), .ref kK, .ref kL, .ref kC, .ref kW, .ref kD, .long hh]))] zz)) (va_Qi (q_X5_isCube cy m0 kO lO sC sW sD pG wO fO mO cO th kK kL kC kW kD tw cb tu ak se pl iw nc sn ik kt ku ks hh cu) (cpost D (va_A [(m0, .inr (5, [.int (nI tw), .int (nI cb), .ref kO, .ref lO, .int (nI tu), .int (nI ak), .int (nI se), .ref sC, .ref sW, .ref sD, .int (nI pl), .ref pG, .int iw, .int (nI nc), .ref wO, .ref fO, .ref mO, .ref cO, .long sn, .ref th, .int ik, .int (nI kt), .int (nI ku), .int (nI ks), .ref kK, .ref kL, .ref kC, .ref kW, .ref kD, .long hh]))] zz)) (va_A [(m0, .inr (5, [.int (nI tw), .int (nI cb), .ref kO, .ref lO, .int (nI tu), .int (nI ak), .int (nI se), .ref sC, .ref sW, .ref sD, .int (nI pl), .ref pG, .int iw, .int (nI nc), .ref wO, .ref fO, .ref mO, .ref cO, .long sn, .ref th, .int ik, .int (nI kt), .int (nI ku), .int (nI ks), .ref kK, .ref kL, .ref kC, .ref kW, .ref kD, .long hh]))] zz)) 0 0 (va_A [(m0, .inr (5, [.int (nI tw), .int (nI cb), .ref kO, .ref lO, .int (nI tu), .int (nI ak), .int (nI se), .ref sC, .ref sW, .ref sD, .int (nI pl), .ref pG, .int iw, .int (nI nc), .ref wO, .ref fO, .ref mO, .ref cO, .long sn, .ref th, .int ik, .int (nI kt), .int (nI ku), .int (nI ks), .ref kK, .ref kL, .ref kC, .ref kW, .ref kD, .long hh]))] zz) := by
  refine Met.ofW (cc := cX5_isCube) (maxL := 2) (ret := (some .boolean)) (by decide) rfl ?_
  intro p e s m args below meth c s₁ B hml hv
  obtain ⟨rfl, hsz, hP, hD0, hX⟩ := hv
  have hx := B.exec
  have hb := B.bytes
  have hr := B.returns
  have hts := atoms_spec (ws := wsX5_isCube) B.pre
  have hown : s.vm.findClass RX5 = some m.cls := findClass_of_methodNamed B.named
  have hlocks := B.notSynchronized
  subst hsz
  have hD := hD0.self (sz := s.heap.size)
  generalize hAe : va_A [(m0, .inr (5, [.int (nI tw), .int (nI cb), .ref kO, .ref lO, .int (nI tu), .int (nI ak), .int (nI se), .ref sC, .ref sW, .ref sD, .int (nI pl), .ref pG, .int iw, .int (nI nc), .ref wO, .ref fO, .ref mO, .ref cO, .long sn, .ref th, .int ik, .int (nI kt), .int (nI ku), .int (nI ks), .ref kK, .ref kL, .ref kC, .ref kW, .ref kD, .long hh]))] s.heap.size = A at hD hX ⊢
  have hA : ∀ q : Nat, s.heap.size ≤ q → A q := fun q h => by rw [← hAe]; exact Or.inr h
  obtain ⟨H, hH⟩ : ∃ H : Heap, H = s.heap := ⟨_, rfl⟩
  have hS : va_S A s.heap H [] := hH ▸ va_S.rf
  have hK := hX.1
  have hP : va_P D vwCl [(m0, .inr (5, [.int (nI tw), .int (nI cb), .ref kO, .ref lO, .int (nI tu), .int (nI ak), .int (nI se), .ref sC, .ref sW, .ref sD, .int (nI pl), .ref pG, .int iw, .int (nI nc), .ref wO, .ref fO, .ref mO, .ref cO, .long sn, .ref th, .int ik, .int (nI kt), .int (nI ku), .int (nI ks), .ref kK, .ref kL, .ref kC, .ref kW, .ref kD, .long hh]))] H := hH ▸ hP
  rw [← hH]
  have hw_X5 : ∀ w ∈ wsX50, w ∈ wsX5_isCube := chX5 (by decide +kernel)
  have f_88 := hts (.fieldLink RX5 88 "CubeTowerModel" "cubes" "I") (inC wa_662 (by decide +kernel))
  have hl := lv_entry ([.ref m0, .int cu]) (n := 2) (Nat.le_of_ble_eq_true rfl)
  rw [lg_entry_eq]
  generalize (lg_sl ([.ref m0, .int cu]) ++ List.replicate (2 - (lg_sl ([.ref m0, .int cu])).length) Slot.unset).toArray = ls at hl ⊢
  have hl : lv_has ls 2 [(0, .ref m0), (1, .int cu)] := hl
  refine lv_iload_n hx hb dX5_isCube_0 rfl (lv_at hl 1 rfl) ?_
  refine lv_iconst (v := 0) hx hb dX5_isCube_1 (by decide) ?_
  refine lv_aload_n hx hb dX5_isCube_2 rfl (lv_at hl 0 rfl) ?_
  refine va_get (D := D) (ci := 5) (v := .int (nI cb)) (C := RX5) (T := TX5) (N := 30) hx hb hts hw_X5 hown hK hP 0 rfl rfl 1 (by decide) f_88 (fun _ h9 => h9) rfl dX5_isCube_3 ?_
  refine lv_iconst (v := 1) hx hb dX5_isCube_6 (by decide) ?_
  refine lv_isub hx hb dX5_isCube_7 ?_
  refine lv_topi (fun x9 e_x9 => ?_)
  refine kc_i (wc := []) (wr := [(m0, .inr (5, [.int (nI tw), .int (nI cb), .ref kO, .ref lO, .int (nI tu), .int (nI ak), .int (nI se), .ref sC, .ref sW, .ref sD, .int (nI pl), .ref pG, .int iw, .int (nI nc), .ref wO, .ref fO, .ref mO, .ref cO, .long sn, .ref th, .int ik, .int (nI kt), .int (nI ku), .int (nI ks), .ref kK, .ref kL, .ref kC, .ref kW, .ref kD, .long hh]))]) (va_runS (As := [.int cu, .int 0, .int x9]) (rest := []) ⟨hx, hb, hml, hown, hts⟩ (c_X5_within l D cy H.size cu 0 x9 ) (va_cwS 3 hts gX5_isCube_X5_within rfl rfl rfl hdc_X5_within.2 ⟨Nat.le_of_ble_eq_true rfl, Nat.le_of_ble_eq_true rfl⟩) (cpre_S (wc := []) hX hP hD hS hA [] (by decide +kernel) rfl) rfl rfl hl.1 rfl (lv_room (Nat.le_of_ble_eq_true rfl)) dX5_isCube_8 ⟨Nat.le_of_ble_eq_true rfl, Nat.le_of_ble_eq_true rfl⟩) hP hD hS hA [] [0] rfl rfl (by decide +kernel) (by decide +kernel) (fun rw u1 H locs hw hP hD hS => ?_)
  obtain ⟨hu, hrw⟩ := hw
  subst hu
  have hP : va_P D vwCl [(m0, .inr (5, [.int (nI tw), .int (nI cb), .ref kO, .ref lO, .int (nI tu), .int (nI ak), .int (nI se), .ref sC, .ref sW, .ref sD, .int (nI pl), .ref pG, .int iw, .int (nI nc), .ref wO, .ref fO, .ref mO, .ref cO, .long sn, .ref th, .int ik, .int (nI kt), .int (nI ku), .int (nI ks), .ref kK, .ref kL, .ref kC, .ref kW, .ref kD, .long hh]))] H := hP
  have hD : va_D A [(m0, .inr (5, [.int (nI tw), .int (nI cb), .ref kO, .ref lO, .int (nI tu), .int (nI ak), .int (nI se), .ref sC, .ref sW, .ref sD, .int (nI pl), .ref pG, .int iw, .int (nI nc), .ref wO, .ref fO, .ref mO, .ref cO, .long sn, .ref th, .int ik, .int (nI kt), .int (nI ku), .int (nI ks), .ref kK, .ref kL, .ref kC, .ref kW, .ref kD, .long hh]))] := hD
  have hP9 := hP.sub (ws' := [(m0, .inr (5, [.int (nI tw), .int (nI cb), .ref kO, .ref lO, .int (nI tu), .int (nI ak), .int (nI se), .ref sC, .ref sW, .ref sD, .int (nI pl), .ref pG, .int iw, .int (nI nc), .ref wO, .ref fO, .ref mO, .ref cO, .long sn, .ref th, .int ik, .int (nI kt), .int (nI ku), .int (nI ks), .ref kK, .ref kL, .ref kC, .ref kW, .ref kD, .long hh]))]) [0] rfl
  have hD9 := hD.sub (ws' := [(m0, .inr (5, [.int (nI tw), .int (nI cb), .ref kO, .ref lO, .int (nI tu), .int (nI ak), .int (nI se), .ref sC, .ref sW, .ref sD, .int (nI pl), .ref pG, .int iw, .int (nI nc), .ref wO, .ref fO, .ref mO, .ref cO, .long sn, .ref th, .int ik, .int (nI kt), .int (nI ku), .int (nI ks), .ref kK, .ref kL, .ref kC, .ref kW, .ref kD, .long hh]))]) [0] (by decide +kernel) rfl
  exact W.zret (v := rw) hx hb hr (by rw [hrw]; split <;> rfl) (fun t9 ht9 hW9 => ⟨⟨rw, [(m0, .inr (5, [.int (nI tw), .int (nI cb), .ref kO, .ref lO, .int (nI tu), .int (nI ak), .int (nI se), .ref sC, .ref sW, .ref sD, .int (nI pl), .ref pG, .int iw, .int (nI nc), .ref wO, .ref fO, .ref mO, .ref cO, .long sn, .ref th, .int ik, .int (nI kt), .int (nI ku), .int (nI ks), .ref kK, .ref kL, .ref kC, .ref kW, .ref kD, .long hh]))], rfl, ⟨rfl, (hrw.trans (ifc (isc hcb e_x9 cu) 1 0))⟩, by rw [ht9]; exact hP9, hD9⟩, hS.F ht9⟩) hS.2.2 dX5_isCube_11
def q_X5_clashesOn (cy : Nat → ClassId) (m0 : Nat) (kO : Nat) (lO : Nat) (sC : Nat) (sW : Nat) (sD : Nat) (pG : Nat) (wO : Nat) (fO : Nat) (mO : Nat) (cO : Nat) (th : Nat) (kK : Nat) (kL : Nat) (kC : Nat) (kW : Nat) (kD : Nat) (tw : Nat) (cb : Nat) (tu : Nat) (ak : Nat) (se : Nat) (pl : Nat) (iw : Int32) (nc : Nat) (sn : Int64) (ik : Int32) (kt : Nat) (ku : Nat) (ks : Nat) (hh : Int64) (sI : Int32) (x1 : Int32) (x2 : Int32) (x3 : Int32) : Int32 → va_W → Prop := fun (r : Int32) (u : va_W) => u = [(m0, .inr (5, [.int (nI tw), .int (nI cb), .ref kO, .ref lO, .int (nI tu), .int (nI ak), .int (nI se), .ref sC, .ref sW, .ref sD, .int (nI pl), .ref pG, .int iw, .int (nI nc), .ref wO, .ref fO, .ref mO, .ref cO, .long sn, .ref th, .int ik, .int (nI kt), .int (nI ku), .int (nI ks), .ref kK, .ref kL, .ref kC, .ref kW, .ref kD, .long hh]))] ∧ r = moI cb sI x1 x2 x3
set_option maxHeartbeats 4000000 in
set_option maxRecDepth 100000 in
theorem g_X5_clashesOn (l : Launch) (D : va_G) (cy : Nat → ClassId) (zz : Nat) (m0 : Nat) (kO : Nat) (lO : Nat) (sC : Nat) (sW : Nat) (sD : Nat) (pG : Nat) (wO : Nat) (fO : Nat) (mO : Nat) (cO : Nat) (th : Nat) (kK : Nat) (kL : Nat) (kC : Nat) (kW : Nat) (kD : Nat) (tw : Nat) (cb : Nat) (tu : Nat) (ak : Nat) (se : Nat) (pl : Nat) (iw : Int32) (nc : Nat) (sn : Int64) (ik : Int32) (kt : Nat) (ku : Nat) (ks : Nat) (hh : Int64) (sI : Int32) (x1 : Int32) (x2 : Int32) (x3 : Int32) (hcb9 : cb < 4) : Met l yX5_clashesOn wsX5_clashesOn ({ frames := 2, cells := 0, slots := 0, locals := 43 } : Room) (va_Pc [.ref m0, .int sI, .int x1, .int x2, .int x3] (cpre D cy [(m0, .inr (5, [.int (nI tw), .int (nI cb), .ref kO, .ref lO, .int (nI tu), .int (nI ak), .int (nI se), .ref sC, .ref sW, .ref sD, .int (nI pl), .ref pG, .int iw, .int (nI nc), .ref wO, .ref fO, .ref mO, .ref cO, .long sn, .ref th, .int ik, .int (nI kt), .int (nI ku), .int (nI ks), .ref kK, .ref kL, .ref kC, .ref kW, .ref kD, .long hh]))] zz)) (va_Qi (q_X5_clashesOn cy m0 kO lO sC sW sD pG wO fO mO cO th kK kL kC kW kD tw cb tu ak se pl iw nc sn ik kt ku ks hh sI x1 x2 x3) (cpost D (va_A [(m0, .inr (5, [.int (nI tw), .int (nI cb), .ref kO, .ref lO, .int (nI tu), .int (nI ak), .int (nI se), .ref sC, .ref sW, .ref sD, .int (nI pl), .ref pG, .int iw, .int (nI nc), .ref wO, .ref fO, .ref mO, .ref cO, .long sn, .ref th, .int ik, .int (nI kt), .int (nI ku), .int (nI ks), .ref kK, .ref kL, .ref kC, .ref kW, .ref kD, .long hh]))] zz)) (va_A [(m0, .inr (5, [.int (nI tw), .int (nI cb), .ref kO, .ref lO, .int (nI tu), .int (nI ak), .int (nI se), .ref sC, .ref sW, .ref sD, .int (nI pl), .ref pG, .int iw, .int (nI nc), .ref wO, .ref fO, .ref mO, .ref cO, .long sn, .ref th, .int ik, .int (nI kt), .int (nI ku), .int (nI ks), .ref kK, .ref kL, .ref kC, .ref kW, .ref kD, .long hh]))] zz)) 0 0 (va_A [(m0, .inr (5, [.int (nI tw), .int (nI cb), .ref kO, .ref lO, .int (nI tu), .int (nI ak), .int (nI se), .ref sC, .ref sW, .ref sD, .int (nI pl), .ref pG, .int iw, .int (nI nc), .ref wO, .ref fO, .ref mO, .ref cO, .long sn, .ref th, .int ik, .int (nI kt), .int (nI ku), .int (nI ks), .ref kK, .ref kL, .ref kC, .ref kW, .ref kD, .long hh]))] zz) := by
  refine Met.ofW (cc := cX5_clashesOn) (maxL := 5) (ret := (some .int)) (by decide) rfl ?_
  intro p e s m args below meth c s₁ B hml hv
  obtain ⟨rfl, hsz, hP, hD0, hX⟩ := hv
  have hx := B.exec
  have hb := B.bytes
  have hr := B.returns
  have hts := atoms_spec (ws := wsX5_clashesOn) B.pre
  have hown : s.vm.findClass RX5 = some m.cls := findClass_of_methodNamed B.named
  have hlocks := B.notSynchronized
  subst hsz
  have hD := hD0.self (sz := s.heap.size)
  generalize hAe : va_A [(m0, .inr (5, [.int (nI tw), .int (nI cb), .ref kO, .ref lO, .int (nI tu), .int (nI ak), .int (nI se), .ref sC, .ref sW, .ref sD, .int (nI pl), .ref pG, .int iw, .int (nI nc), .ref wO, .ref fO, .ref mO, .ref cO, .long sn, .ref th, .int ik, .int (nI kt), .int (nI ku), .int (nI ks), .ref kK, .ref kL, .ref kC, .ref kW, .ref kD, .long hh]))] s.heap.size = A at hD hX ⊢
  have hA : ∀ q : Nat, s.heap.size ≤ q → A q := fun q h => by rw [← hAe]; exact Or.inr h
  obtain ⟨H, hH⟩ : ∃ H : Heap, H = s.heap := ⟨_, rfl⟩
  have hS : va_S A s.heap H [] := hH ▸ va_S.rf
  have hK := hX.1
  have hP : va_P D vwCl [(m0, .inr (5, [.int (nI tw), .int (nI cb), .ref kO, .ref lO, .int (nI tu), .int (nI ak), .int (nI se), .ref sC, .ref sW, .ref sD, .int (nI pl), .ref pG, .int iw, .int (nI nc), .ref wO, .ref fO, .ref mO, .ref cO, .long sn, .ref th, .int ik, .int (nI kt), .int (nI ku), .int (nI ks), .ref kK, .ref kL, .ref kC, .ref kW, .ref kD, .long hh]))] H := hH ▸ hP
  rw [← hH]
  have hw_X5 : ∀ w ∈ wsX50, w ∈ wsX5_clashesOn := chX5 (by decide +kernel)
  have f_88 := hts (.fieldLink RX5 88 "CubeTowerModel" "cubes" "I") (inC wa_662 (by decide +kernel))
  have hl := lv_entry ([.ref m0, .int sI, .int x1, .int x2, .int x3]) (n := 5) (Nat.le_of_ble_eq_true rfl)
  rw [lg_entry_eq]
  generalize (lg_sl ([.ref m0, .int sI, .int x1, .int x2, .int x3]) ++ List.replicate (5 - (lg_sl ([.ref m0, .int sI, .int x1, .int x2, .int x3])).length) Slot.unset).toArray = ls at hl ⊢
  have hl : lv_has ls 5 [(0, .ref m0), (1, .int sI), (2, .int x1), (3, .int x2), (4, .int x3)] := hl
  refine lv_aload_n hx hb dX5_clashesOn_0 rfl (lv_at hl 0 rfl) ?_
  refine va_get (D := D) (ci := 5) (v := .int (nI cb)) (C := RX5) (T := TX5) (N := 30) hx hb hts hw_X5 hown hK hP 0 rfl rfl 1 (by decide) f_88 (fun _ h9 => h9) rfl dX5_clashesOn_1 ?_
  refine lv_iconst (v := 2) hx hb dX5_clashesOn_4 (by decide) ?_
  refine lv_icmp_ne (tgt := 17) hx hb dX5_clashesOn_5 (by decide) (fun c_5 => ?_) (fun c_5 => ?_)
  · have h9 : ¬ cb = 2 := fun q => c_5 (by rw [q]; rfl)
    refine lv_iload_n hx hb dX5_clashesOn_17 rfl (lv_at hl 2 rfl) ?_
    refine lv_iload_n hx hb dX5_clashesOn_18 rfl (lv_at hl 3 rfl) ?_
    refine lv_iload_n hx hb dX5_clashesOn_19 rfl (lv_at hl 1 rfl) ?_
    refine kc_i (wc := []) (wr := [(m0, .inr (5, [.int (nI tw), .int (nI cb), .ref kO, .ref lO, .int (nI tu), .int (nI ak), .int (nI se), .ref sC, .ref sW, .ref sD, .int (nI pl), .ref pG, .int iw, .int (nI nc), .ref wO, .ref fO, .ref mO, .ref cO, .long sn, .ref th, .int ik, .int (nI kt), .int (nI ku), .int (nI ks), .ref kK, .ref kL, .ref kC, .ref kW, .ref kD, .long hh]))]) (va_runS (As := [.int x1, .int x2, .int sI]) (rest := []) ⟨hx, hb, hml, hown, hts⟩ (c_X5_same l D cy H.size x1 x2 sI ) (va_cwS 3 hts gX5_clashesOn_X5_same rfl rfl rfl hdc_X5_same.2 ⟨Nat.le_of_ble_eq_true rfl, Nat.le_of_ble_eq_true rfl⟩) (cpre_S (wc := []) hX hP hD hS hA [] (by decide +kernel) rfl) rfl rfl hl.1 rfl (lv_room (Nat.le_of_ble_eq_true rfl)) dX5_clashesOn_20 ⟨Nat.le_of_ble_eq_true rfl, Nat.le_of_ble_eq_true rfl⟩) hP hD hS hA [] [0] rfl rfl (by decide +kernel) (by decide +kernel) (fun rs u1 H locs hw hP hD hS => ?_)
    obtain ⟨hu, hrs⟩ := hw
    subst hu
    have hP : va_P D vwCl [(m0, .inr (5, [.int (nI tw), .int (nI cb), .ref kO, .ref lO, .int (nI tu), .int (nI ak), .int (nI se), .ref sC, .ref sW, .ref sD, .int (nI pl), .ref pG, .int iw, .int (nI nc), .ref wO, .ref fO, .ref mO, .ref cO, .long sn, .ref th, .int ik, .int (nI kt), .int (nI ku), .int (nI ks), .ref kK, .ref kL, .ref kC, .ref kW, .ref kD, .long hh]))] H := hP
    have hD : va_D A [(m0, .inr (5, [.int (nI tw), .int (nI cb), .ref kO, .ref lO, .int (nI tu), .int (nI ak), .int (nI se), .ref sC, .ref sW, .ref sD, .int (nI pl), .ref pG, .int iw, .int (nI nc), .ref wO, .ref fO, .ref mO, .ref cO, .long sn, .ref th, .int ik, .int (nI kt), .int (nI ku), .int (nI ks), .ref kK, .ref kL, .ref kC, .ref kW, .ref kD, .long hh]))] := hD
    subst hrs
    refine lv_iload_n hx hb dX5_clashesOn_23 rfl (lv_at hl 2 rfl) ?_
    refine lv_iload hx hb dX5_clashesOn_24 (lv_at hl 4 rfl) ?_
    refine lv_iload_n hx hb dX5_clashesOn_26 rfl (lv_at hl 1 rfl) ?_
    refine kc_i (wc := []) (wr := [(m0, .inr (5, [.int (nI tw), .int (nI cb), .ref kO, .ref lO, .int (nI tu), .int (nI ak), .int (nI se), .ref sC, .ref sW, .ref sD, .int (nI pl), .ref pG, .int iw, .int (nI nc), .ref wO, .ref fO, .ref mO, .ref cO, .long sn, .ref th, .int ik, .int (nI kt), .int (nI ku), .int (nI ks), .ref kK, .ref kL, .ref kC, .ref kW, .ref kD, .long hh]))]) (va_runS (As := [.int x1, .int x3, .int sI]) (rest := [.int (smI x1 x2 sI)]) ⟨hx, hb, hml, hown, hts⟩ (c_X5_same l D cy H.size x1 x3 sI ) (va_cwS 3 hts gX5_clashesOn_X5_same rfl rfl rfl hdc_X5_same.2 ⟨Nat.le_of_ble_eq_true rfl, Nat.le_of_ble_eq_true rfl⟩) (cpre_S (wc := []) hX hP hD hS hA [] (by decide +kernel) rfl) rfl rfl hl.1 rfl (lv_room (Nat.le_of_ble_eq_true rfl)) dX5_clashesOn_27 ⟨Nat.le_of_ble_eq_true rfl, Nat.le_of_ble_eq_true rfl⟩) hP hD hS hA [] [0] rfl rfl (by decide +kernel) (by decide +kernel) (fun rs u2 H locs hw hP hD hS => ?_)
    obtain ⟨hu, hrs⟩ := hw
    subst hu
    have hP : va_P D vwCl [(m0, .inr (5, [.int (nI tw), .int (nI cb), .ref kO, .ref lO, .int (nI tu), .int (nI ak), .int (nI se), .ref sC, .ref sW, .ref sD, .int (nI pl), .ref pG, .int iw, .int (nI nc), .ref wO, .ref fO, .ref mO, .ref cO, .long sn, .ref th, .int ik, .int (nI kt), .int (nI ku), .int (nI ks), .ref kK, .ref kL, .ref kC, .ref kW, .ref kD, .long hh]))] H := hP
    have hD : va_D A [(m0, .inr (5, [.int (nI tw), .int (nI cb), .ref kO, .ref lO, .int (nI tu), .int (nI ak), .int (nI se), .ref sC, .ref sW, .ref sD, .int (nI pl), .ref pG, .int iw, .int (nI nc), .ref wO, .ref fO, .ref mO, .ref cO, .long sn, .ref th, .int ik, .int (nI kt), .int (nI ku), .int (nI ks), .ref kK, .ref kL, .ref kC, .ref kW, .ref kD, .long hh]))] := hD
    subst hrs
    refine lv_iadd hx hb dX5_clashesOn_30 ?_
    refine lv_iload_n hx hb dX5_clashesOn_31 rfl (lv_at hl 3 rfl) ?_
    refine lv_iload hx hb dX5_clashesOn_32 (lv_at hl 4 rfl) ?_
    refine lv_iload_n hx hb dX5_clashesOn_34 rfl (lv_at hl 1 rfl) ?_
    refine kc_i (wc := []) (wr := [(m0, .inr (5, [.int (nI tw), .int (nI cb), .ref kO, .ref lO, .int (nI tu), .int (nI ak), .int (nI se), .ref sC, .ref sW, .ref sD, .int (nI pl), .ref pG, .int iw, .int (nI nc), .ref wO, .ref fO, .ref mO, .ref cO, .long sn, .ref th, .int ik, .int (nI kt), .int (nI ku), .int (nI ks), .ref kK, .ref kL, .ref kC, .ref kW, .ref kD, .long hh]))]) (va_runS (As := [.int x2, .int x3, .int sI]) (rest := [.int ((smI x1 x2 sI) + (smI x1 x3 sI))]) ⟨hx, hb, hml, hown, hts⟩ (c_X5_same l D cy H.size x2 x3 sI ) (va_cwS 3 hts gX5_clashesOn_X5_same rfl rfl rfl hdc_X5_same.2 ⟨Nat.le_of_ble_eq_true rfl, Nat.le_of_ble_eq_true rfl⟩) (cpre_S (wc := []) hX hP hD hS hA [] (by decide +kernel) rfl) rfl rfl hl.1 rfl (lv_room (Nat.le_of_ble_eq_true rfl)) dX5_clashesOn_35 ⟨Nat.le_of_ble_eq_true rfl, Nat.le_of_ble_eq_true rfl⟩) hP hD hS hA [] [0] rfl rfl (by decide +kernel) (by decide +kernel) (fun rs u3 H locs hw hP hD hS => ?_)
    obtain ⟨hu, hrs⟩ := hw
    subst hu
    have hP : va_P D vwCl [(m0, .inr (5, [.int (nI tw), .int (nI cb), .ref kO, .ref lO, .int (nI tu), .int (nI ak), .int (nI se), .ref sC, .ref sW, .ref sD, .int (nI pl), .ref pG, .int iw, .int (nI nc), .ref wO, .ref fO, .ref mO, .ref cO, .long sn, .ref th, .int ik, .int (nI kt), .int (nI ku), .int (nI ks), .ref kK, .ref kL, .ref kC, .ref kW, .ref kD, .long hh]))] H := hP
    have hD : va_D A [(m0, .inr (5, [.int (nI tw), .int (nI cb), .ref kO, .ref lO, .int (nI tu), .int (nI ak), .int (nI se), .ref sC, .ref sW, .ref sD, .int (nI pl), .ref pG, .int iw, .int (nI nc), .ref wO, .ref fO, .ref mO, .ref cO, .long sn, .ref th, .int ik, .int (nI kt), .int (nI ku), .int (nI ks), .ref kK, .ref kL, .ref kC, .ref kW, .ref kD, .long hh]))] := hD
    subst hrs
    refine lv_iadd hx hb dX5_clashesOn_38 ?_
    have hP9 := hP.sub (ws' := [(m0, .inr (5, [.int (nI tw), .int (nI cb), .ref kO, .ref lO, .int (nI tu), .int (nI ak), .int (nI se), .ref sC, .ref sW, .ref sD, .int (nI pl), .ref pG, .int iw, .int (nI nc), .ref wO, .ref fO, .ref mO, .ref cO, .long sn, .ref th, .int ik, .int (nI kt), .int (nI ku), .int (nI ks), .ref kK, .ref kL, .ref kC, .ref kW, .ref kD, .long hh]))]) [0] rfl
    have hD9 := hD.sub (ws' := [(m0, .inr (5, [.int (nI tw), .int (nI cb), .ref kO, .ref lO, .int (nI tu), .int (nI ak), .int (nI se), .ref sC, .ref sW, .ref sD, .int (nI pl), .ref pG, .int iw, .int (nI nc), .ref wO, .ref fO, .ref mO, .ref cO, .long sn, .ref th, .int ik, .int (nI kt), .int (nI ku), .int (nI ks), .ref kK, .ref kL, .ref kC, .ref kW, .ref kD, .long hh]))]) [0] (by decide +kernel) rfl
    exact W.iret (v := ((smI x1 x2 sI) + (smI x1 x3 sI)) + (smI x2 x3 sI)) hx hb hr (fun t9 ht9 hW9 => ⟨⟨((smI x1 x2 sI) + (smI x1 x3 sI)) + (smI x2 x3 sI), [(m0, .inr (5, [.int (nI tw), .int (nI cb), .ref kO, .ref lO, .int (nI tu), .int (nI ak), .int (nI se), .ref sC, .ref sW, .ref sD, .int (nI pl), .ref pG, .int iw, .int (nI nc), .ref wO, .ref fO, .ref mO, .ref cO, .long sn, .ref th, .int ik, .int (nI kt), .int (nI ku), .int (nI ks), .ref kK, .ref kL, .ref kC, .ref kW, .ref kD, .long hh]))], rfl, ⟨rfl, (if_neg h9).symm⟩, by rw [ht9]; exact hP9, hD9⟩, hS.F ht9⟩) hS.2.2 dX5_clashesOn_39
  · have h9 : cb = 2 := (nI_eq (a := cb) (b := 2) (by omega) (by decide)).mp c_5
    refine lv_iload_n hx hb dX5_clashesOn_8 rfl (lv_at hl 2 rfl) ?_
    refine lv_iload_n hx hb dX5_clashesOn_9 rfl (lv_at hl 3 rfl) ?_
    refine lv_iload_n hx hb dX5_clashesOn_10 rfl (lv_at hl 1 rfl) ?_
    refine kc_i (wc := []) (wr := [(m0, .inr (5, [.int (nI tw), .int (nI cb), .ref kO, .ref lO, .int (nI tu), .int (nI ak), .int (nI se), .ref sC, .ref sW, .ref sD, .int (nI pl), .ref pG, .int iw, .int (nI nc), .ref wO, .ref fO, .ref mO, .ref cO, .long sn, .ref th, .int ik, .int (nI kt), .int (nI ku), .int (nI ks), .ref kK, .ref kL, .ref kC, .ref kW, .ref kD, .long hh]))]) (va_runS (As := [.int x1, .int x2, .int sI]) (rest := []) ⟨hx, hb, hml, hown, hts⟩ (c_X5_same l D cy H.size x1 x2 sI ) (va_cwS 3 hts gX5_clashesOn_X5_same rfl rfl rfl hdc_X5_same.2 ⟨Nat.le_of_ble_eq_true rfl, Nat.le_of_ble_eq_true rfl⟩) (cpre_S (wc := []) hX hP hD hS hA [] (by decide +kernel) rfl) rfl rfl hl.1 rfl (lv_room (Nat.le_of_ble_eq_true rfl)) dX5_clashesOn_11 ⟨Nat.le_of_ble_eq_true rfl, Nat.le_of_ble_eq_true rfl⟩) hP hD hS hA [] [0] rfl rfl (by decide +kernel) (by decide +kernel) (fun rs u4 H locs hw hP hD hS => ?_)
    obtain ⟨hu, hrs⟩ := hw
    subst hu
    have hP : va_P D vwCl [(m0, .inr (5, [.int (nI tw), .int (nI cb), .ref kO, .ref lO, .int (nI tu), .int (nI ak), .int (nI se), .ref sC, .ref sW, .ref sD, .int (nI pl), .ref pG, .int iw, .int (nI nc), .ref wO, .ref fO, .ref mO, .ref cO, .long sn, .ref th, .int ik, .int (nI kt), .int (nI ku), .int (nI ks), .ref kK, .ref kL, .ref kC, .ref kW, .ref kD, .long hh]))] H := hP
    have hD : va_D A [(m0, .inr (5, [.int (nI tw), .int (nI cb), .ref kO, .ref lO, .int (nI tu), .int (nI ak), .int (nI se), .ref sC, .ref sW, .ref sD, .int (nI pl), .ref pG, .int iw, .int (nI nc), .ref wO, .ref fO, .ref mO, .ref cO, .long sn, .ref th, .int ik, .int (nI kt), .int (nI ku), .int (nI ks), .ref kK, .ref kL, .ref kC, .ref kW, .ref kD, .long hh]))] := hD
    subst hrs
    refine lv_goto (tgt := 39) hx hb dX5_clashesOn_14 (by decide) ?_
    have hP9 := hP.sub (ws' := [(m0, .inr (5, [.int (nI tw), .int (nI cb), .ref kO, .ref lO, .int (nI tu), .int (nI ak), .int (nI se), .ref sC, .ref sW, .ref sD, .int (nI pl), .ref pG, .int iw, .int (nI nc), .ref wO, .ref fO, .ref mO, .ref cO, .long sn, .ref th, .int ik, .int (nI kt), .int (nI ku), .int (nI ks), .ref kK, .ref kL, .ref kC, .ref kW, .ref kD, .long hh]))]) [0] rfl
    have hD9 := hD.sub (ws' := [(m0, .inr (5, [.int (nI tw), .int (nI cb), .ref kO, .ref lO, .int (nI tu), .int (nI ak), .int (nI se), .ref sC, .ref sW, .ref sD, .int (nI pl), .ref pG, .int iw, .int (nI nc), .ref wO, .ref fO, .ref mO, .ref cO, .long sn, .ref th, .int ik, .int (nI kt), .int (nI ku), .int (nI ks), .ref kK, .ref kL, .ref kC, .ref kW, .ref kD, .long hh]))]) [0] (by decide +kernel) rfl
    exact W.iret (v := smI x1 x2 sI) hx hb hr (fun t9 ht9 hW9 => ⟨⟨smI x1 x2 sI, [(m0, .inr (5, [.int (nI tw), .int (nI cb), .ref kO, .ref lO, .int (nI tu), .int (nI ak), .int (nI se), .ref sC, .ref sW, .ref sD, .int (nI pl), .ref pG, .int iw, .int (nI nc), .ref wO, .ref fO, .ref mO, .ref cO, .long sn, .ref th, .int ik, .int (nI kt), .int (nI ku), .int (nI ks), .ref kK, .ref kL, .ref kC, .ref kW, .ref kD, .long hh]))], rfl, ⟨rfl, (if_pos h9).symm⟩, by rw [ht9]; exact hP9, hD9⟩, hS.F ht9⟩) hS.2.2 dX5_clashesOn_39
def q_X5_clashesOf (cy : Nat → ClassId) (m0 : Nat) (kO : Nat) (lO : Nat) (sC : Nat) (sW : Nat) (sD : Nat) (pG : Nat) (wO : Nat) (fO : Nat) (mO : Nat) (cO : Nat) (th : Nat) (kK : Nat) (kL : Nat) (kC : Nat) (kW : Nat) (kD : Nat) (tw : Nat) (cb : Nat) (tu : Nat) (ak : Nat) (se : Nat) (pl : Nat) (iw : Int32) (nc : Nat) (sn : Int64) (ik : Int32) (kt : Nat) (ku : Nat) (ks : Nat) (hh : Int64) (x1 : Int32) (x2 : Int32) (x3 : Int32) : Int32 → va_W → Prop := fun (r : Int32) (u : va_W) => u = [(m0, .inr (5, [.int (nI tw), .int (nI cb), .ref kO, .ref lO, .int (nI tu), .int (nI ak), .int (nI se), .ref sC, .ref sW, .ref sD, .int (nI pl), .ref pG, .int iw, .int (nI nc), .ref wO, .ref fO, .ref mO, .ref cO, .long sn, .ref th, .int ik, .int (nI kt), .int (nI ku), .int (nI ks), .ref kK, .ref kL, .ref kC, .ref kW, .ref kD, .long hh]))] ∧ r = mfI cb x1 x2 x3
set_option maxHeartbeats 4000000 in
set_option maxRecDepth 100000 in
theorem g_X5_clashesOf (l : Launch) (D : va_G) (cy : Nat → ClassId) (zz : Nat) (m0 : Nat) (kO : Nat) (lO : Nat) (sC : Nat) (sW : Nat) (sD : Nat) (pG : Nat) (wO : Nat) (fO : Nat) (mO : Nat) (cO : Nat) (th : Nat) (kK : Nat) (kL : Nat) (kC : Nat) (kW : Nat) (kD : Nat) (tw : Nat) (cb : Nat) (tu : Nat) (ak : Nat) (se : Nat) (pl : Nat) (iw : Int32) (nc : Nat) (sn : Int64) (ik : Int32) (kt : Nat) (ku : Nat) (ks : Nat) (hh : Int64) (x1 : Int32) (x2 : Int32) (x3 : Int32) (hcb9 : cb < 4) : Met l yX5_clashesOf wsX5_clashesOf ({ frames := 3, cells := 0, slots := 0, locals := 67 } : Room) (va_Pc [.ref m0, .int x1, .int x2, .int x3] (cpre D cy [(m0, .inr (5, [.int (nI tw), .int (nI cb), .ref kO, .ref lO, .int (nI tu), .int (nI ak), .int (nI se), .ref sC, .ref sW, .ref sD, .int (nI pl), .ref pG, .int iw, .int (nI nc), .ref wO, .ref fO, .ref mO, .ref cO, .long sn, .ref th, .int ik, .int (nI kt), .int (nI ku), .int (nI ks), .ref kK, .ref kL, .ref kC, .ref kW, .ref kD, .long hh]))] zz)) (va_Qi (q_X5_clashesOf cy m0 kO lO sC sW sD pG wO fO mO cO th kK kL kC kW kD tw cb tu ak se pl iw nc sn ik kt ku ks hh x1 x2 x3) (cpost D (va_A [(m0, .inr (5, [.int (nI tw), .int (nI cb), .ref kO, .ref lO, .int (nI tu), .int (nI ak), .int (nI se), .ref sC, .ref sW, .ref sD, .int (nI pl), .ref pG, .int iw, .int (nI nc), .ref wO, .ref fO, .ref mO, .ref cO, .long sn, .ref th, .int ik, .int (nI kt), .int (nI ku), .int (nI ks), .ref kK, .ref kL, .ref kC, .ref kW, .ref kD, .long hh]))] zz)) (va_A [(m0, .inr (5, [.int (nI tw), .int (nI cb), .ref kO, .ref lO, .int (nI tu), .int (nI ak), .int (nI se), .ref sC, .ref sW, .ref sD, .int (nI pl), .ref pG, .int iw, .int (nI nc), .ref wO, .ref fO, .ref mO, .ref cO, .long sn, .ref th, .int ik, .int (nI kt), .int (nI ku), .int (nI ks), .ref kK, .ref kL, .ref kC, .ref kW, .ref kD, .long hh]))] zz)) 0 0 (va_A [(m0, .inr (5, [.int (nI tw), .int (nI cb), .ref kO, .ref lO, .int (nI tu), .int (nI ak), .int (nI se), .ref sC, .ref sW, .ref sD, .int (nI pl), .ref pG, .int iw, .int (nI nc), .ref wO, .ref fO, .ref mO, .ref cO, .long sn, .ref th, .int ik, .int (nI kt), .int (nI ku), .int (nI ks), .ref kK, .ref kL, .ref kC, .ref kW, .ref kD, .long hh]))] zz) := by
  refine Met.ofW (cc := cX5_clashesOf) (maxL := 6) (ret := (some .int)) (by decide) rfl ?_
  intro p e s m args below meth c s₁ B hml hv
  obtain ⟨rfl, hsz, hP, hD0, hX⟩ := hv
  have hx := B.exec
  have hb := B.bytes
  have hr := B.returns
  have hts := atoms_spec (ws := wsX5_clashesOf) B.pre
  have hown : s.vm.findClass RX5 = some m.cls := findClass_of_methodNamed B.named
  have hlocks := B.notSynchronized
  subst hsz
  have hD := hD0.self (sz := s.heap.size)
  generalize hAe : va_A [(m0, .inr (5, [.int (nI tw), .int (nI cb), .ref kO, .ref lO, .int (nI tu), .int (nI ak), .int (nI se), .ref sC, .ref sW, .ref sD, .int (nI pl), .ref pG, .int iw, .int (nI nc), .ref wO, .ref fO, .ref mO, .ref cO, .long sn, .ref th, .int ik, .int (nI kt), .int (nI ku), .int (nI ks), .ref kK, .ref kL, .ref kC, .ref kW, .ref kD, .long hh]))] s.heap.size = A at hD hX ⊢
  have hA : ∀ q : Nat, s.heap.size ≤ q → A q := fun q h => by rw [← hAe]; exact Or.inr h
  obtain ⟨H, hH⟩ : ∃ H : Heap, H = s.heap := ⟨_, rfl⟩
  have hS : va_S A s.heap H [] := hH ▸ va_S.rf
  have hK := hX.1
  have hP : va_P D vwCl [(m0, .inr (5, [.int (nI tw), .int (nI cb), .ref kO, .ref lO, .int (nI tu), .int (nI ak), .int (nI se), .ref sC, .ref sW, .ref sD, .int (nI pl), .ref pG, .int iw, .int (nI nc), .ref wO, .ref fO, .ref mO, .ref cO, .long sn, .ref th, .int ik, .int (nI kt), .int (nI ku), .int (nI ks), .ref kK, .ref kL, .ref kC, .ref kW, .ref kD, .long hh]))] H := hH ▸ hP
  rw [← hH]
  have hl := lv_entry ([.ref m0, .int x1, .int x2, .int x3]) (n := 6) (Nat.le_of_ble_eq_true rfl)
  rw [lg_entry_eq]
  generalize (lg_sl ([.ref m0, .int x1, .int x2, .int x3]) ++ List.replicate (6 - (lg_sl ([.ref m0, .int x1, .int x2, .int x3])).length) Slot.unset).toArray = ls at hl ⊢
  have hl : lv_has ls 6 [(0, .ref m0), (1, .int x1), (2, .int x2), (3, .int x3)] := hl
  refine lv_iconst (v := 0) hx hb dX5_clashesOf_0 (by decide) ?_
  refine lv_istore (lv' := [(4, .int 0), (0, .ref m0), (1, .int x1), (2, .int x2), (3, .int x3)]) hx hb dX5_clashesOf_1 hl (by decide) rfl (fun ls hl => ?_)
  refine lv_iconst (v := 2) hx hb dX5_clashesOf_3 (by decide) ?_
  refine lv_istore (lv' := [(5, .int 2), (4, .int 0), (0, .ref m0), (1, .int x1), (2, .int x2), (3, .int x3)]) hx hb dX5_clashesOf_4 hl (by decide) rfl (fun ls hl => ?_)
  refine lv_iload hx hb dX5_clashesOf_6 (lv_at hl 0 rfl) ?_
  refine lv_bipush (v := 6) hx hb dX5_clashesOf_8 (by decide) ?_
  refine lv_icmp_ge (tgt := 33) hx hb dX5_clashesOf_10 (by decide) (fun c_10 => ?_) (fun c_10 => ?_)
  · exact absurd c_10 (by decide)
  · refine lv_iload hx hb dX5_clashesOf_13 (lv_at hl 1 rfl) ?_
    refine lv_aload_n hx hb dX5_clashesOf_15 rfl (lv_at hl 2 rfl) ?_
    refine lv_iload hx hb dX5_clashesOf_16 (lv_at hl 0 rfl) ?_
    refine lv_iload_n hx hb dX5_clashesOf_18 rfl (lv_at hl 3 rfl) ?_
    refine lv_iload_n hx hb dX5_clashesOf_19 rfl (lv_at hl 4 rfl) ?_
    refine lv_iload_n hx hb dX5_clashesOf_20 rfl (lv_at hl 5 rfl) ?_
    refine kc_i (wc := [(m0, .inr (5, [.int (nI tw), .int (nI cb), .ref kO, .ref lO, .int (nI tu), .int (nI ak), .int (nI se), .ref sC, .ref sW, .ref sD, .int (nI pl), .ref pG, .int iw, .int (nI nc), .ref wO, .ref fO, .ref mO, .ref cO, .long sn, .ref th, .int ik, .int (nI kt), .int (nI ku), .int (nI ks), .ref kK, .ref kL, .ref kC, .ref kW, .ref kD, .long hh]))]) (wr := []) (va_runV (As := [.int 2, .int x1, .int x2, .int x3]) (rest := [.int 0]) ⟨hx, hb, hml, hown, hts⟩ (g_X5_clashesOn l D cy H.size m0 kO lO sC sW sD pG wO fO mO cO th kK kL kC kW kD tw cb tu ak se pl iw nc sn ik kt ku ks hh 2 x1 x2 x3 hcb9) (cwV 4 hts gX5_clashesOf_X5_clashesOn rfl rfl rfl hdc_X5_clashesOn ⟨Nat.le_of_ble_eq_true rfl, Nat.le_of_ble_eq_true rfl⟩) (cpre_V (wc := [(m0, .inr (5, [.int (nI tw), .int (nI cb), .ref kO, .ref lO, .int (nI tu), .int (nI ak), .int (nI se), .ref sC, .ref sW, .ref sD, .int (nI pl), .ref pG, .int iw, .int (nI nc), .ref wO, .ref fO, .ref mO, .ref cO, .long sn, .ref th, .int ik, .int (nI kt), .int (nI ku), .int (nI ks), .ref kK, .ref kL, .ref kC, .ref kW, .ref kD, .long hh]))]) 0 5 rfl rfl hX hP hD hS hA [0] (by decide +kernel) rfl) rfl rfl hl.1 rfl (lv_room (Nat.le_of_ble_eq_true rfl)) dX5_clashesOf_21 ⟨Nat.le_of_ble_eq_true rfl, Nat.le_of_ble_eq_true rfl⟩) hP hD hS hA [0] [] rfl rfl (by decide +kernel) (by decide +kernel) (fun rc u1 H locs hw hP hD hS => ?_)
    obtain ⟨hu, hrc⟩ := hw
    subst hu
    have hP : va_P D vwCl [(m0, .inr (5, [.int (nI tw), .int (nI cb), .ref kO, .ref lO, .int (nI tu), .int (nI ak), .int (nI se), .ref sC, .ref sW, .ref sD, .int (nI pl), .ref pG, .int iw, .int (nI nc), .ref wO, .ref fO, .ref mO, .ref cO, .long sn, .ref th, .int ik, .int (nI kt), .int (nI ku), .int (nI ks), .ref kK, .ref kL, .ref kC, .ref kW, .ref kD, .long hh]))] H := hP
    have hD : va_D A [(m0, .inr (5, [.int (nI tw), .int (nI cb), .ref kO, .ref lO, .int (nI tu), .int (nI ak), .int (nI se), .ref sC, .ref sW, .ref sD, .int (nI pl), .ref pG, .int iw, .int (nI nc), .ref wO, .ref fO, .ref mO, .ref cO, .long sn, .ref th, .int ik, .int (nI kt), .int (nI ku), .int (nI ks), .ref kK, .ref kL, .ref kC, .ref kW, .ref kD, .long hh]))] := hD
    subst hrc
    refine lv_iadd hx hb dX5_clashesOf_24 ?_
    refine lv_topi (fun y2 ey2 => ?_)
    obtain rfl : y2 = moI cb 2 x1 x2 x3 := ey2.trans (Int32.zero_add _)
    refine lv_istore (lv' := [(4, .int (moI cb 2 x1 x2 x3)), (5, .int 2), (0, .ref m0), (1, .int x1), (2, .int x2), (3, .int x3)]) hx hb dX5_clashesOf_25 hl (by decide) rfl (fun ls hl => ?_)
    refine lv_iinc (v := 3) (lv' := [(5, .int 3), (4, .int (moI cb 2 x1 x2 x3)), (0, .ref m0), (1, .int x1), (2, .int x2), (3, .int x3)]) hx hb dX5_clashesOf_27 hl (k := 1) rfl (by decide) (by decide) rfl (fun ls hl => ?_)
    refine lv_goto (tgt := 6) hx hb dX5_clashesOf_30 (by decide) ?_
    refine lv_iload hx hb dX5_clashesOf_6 (lv_at hl 0 rfl) ?_
    refine lv_bipush (v := 6) hx hb dX5_clashesOf_8 (by decide) ?_
    refine lv_icmp_ge (tgt := 33) hx hb dX5_clashesOf_10 (by decide) (fun c_10 => ?_) (fun c_10 => ?_)
    · exact absurd c_10 (by decide)
    · refine lv_iload hx hb dX5_clashesOf_13 (lv_at hl 1 rfl) ?_
      refine lv_aload_n hx hb dX5_clashesOf_15 rfl (lv_at hl 2 rfl) ?_
      refine lv_iload hx hb dX5_clashesOf_16 (lv_at hl 0 rfl) ?_
      refine lv_iload_n hx hb dX5_clashesOf_18 rfl (lv_at hl 3 rfl) ?_
      refine lv_iload_n hx hb dX5_clashesOf_19 rfl (lv_at hl 4 rfl) ?_
      refine lv_iload_n hx hb dX5_clashesOf_20 rfl (lv_at hl 5 rfl) ?_
      refine kc_i (wc := [(m0, .inr (5, [.int (nI tw), .int (nI cb), .ref kO, .ref lO, .int (nI tu), .int (nI ak), .int (nI se), .ref sC, .ref sW, .ref sD, .int (nI pl), .ref pG, .int iw, .int (nI nc), .ref wO, .ref fO, .ref mO, .ref cO, .long sn, .ref th, .int ik, .int (nI kt), .int (nI ku), .int (nI ks), .ref kK, .ref kL, .ref kC, .ref kW, .ref kD, .long hh]))]) (wr := []) (va_runV (As := [.int 3, .int x1, .int x2, .int x3]) (rest := [.int (moI cb 2 x1 x2 x3)]) ⟨hx, hb, hml, hown, hts⟩ (g_X5_clashesOn l D cy H.size m0 kO lO sC sW sD pG wO fO mO cO th kK kL kC kW kD tw cb tu ak se pl iw nc sn ik kt ku ks hh 3 x1 x2 x3 hcb9) (cwV 4 hts gX5_clashesOf_X5_clashesOn rfl rfl rfl hdc_X5_clashesOn ⟨Nat.le_of_ble_eq_true rfl, Nat.le_of_ble_eq_true rfl⟩) (cpre_V (wc := [(m0, .inr (5, [.int (nI tw), .int (nI cb), .ref kO, .ref lO, .int (nI tu), .int (nI ak), .int (nI se), .ref sC, .ref sW, .ref sD, .int (nI pl), .ref pG, .int iw, .int (nI nc), .ref wO, .ref fO, .ref mO, .ref cO, .long sn, .ref th, .int ik, .int (nI kt), .int (nI ku), .int (nI ks), .ref kK, .ref kL, .ref kC, .ref kW, .ref kD, .long hh]))]) 0 5 rfl rfl hX hP hD hS hA [0] (by decide +kernel) rfl) rfl rfl hl.1 rfl (lv_room (Nat.le_of_ble_eq_true rfl)) dX5_clashesOf_21 ⟨Nat.le_of_ble_eq_true rfl, Nat.le_of_ble_eq_true rfl⟩) hP hD hS hA [0] [] rfl rfl (by decide +kernel) (by decide +kernel) (fun rc u3 H locs hw hP hD hS => ?_)
      obtain ⟨hu, hrc⟩ := hw
      subst hu
      have hP : va_P D vwCl [(m0, .inr (5, [.int (nI tw), .int (nI cb), .ref kO, .ref lO, .int (nI tu), .int (nI ak), .int (nI se), .ref sC, .ref sW, .ref sD, .int (nI pl), .ref pG, .int iw, .int (nI nc), .ref wO, .ref fO, .ref mO, .ref cO, .long sn, .ref th, .int ik, .int (nI kt), .int (nI ku), .int (nI ks), .ref kK, .ref kL, .ref kC, .ref kW, .ref kD, .long hh]))] H := hP
      have hD : va_D A [(m0, .inr (5, [.int (nI tw), .int (nI cb), .ref kO, .ref lO, .int (nI tu), .int (nI ak), .int (nI se), .ref sC, .ref sW, .ref sD, .int (nI pl), .ref pG, .int iw, .int (nI nc), .ref wO, .ref fO, .ref mO, .ref cO, .long sn, .ref th, .int ik, .int (nI kt), .int (nI ku), .int (nI ks), .ref kK, .ref kL, .ref kC, .ref kW, .ref kD, .long hh]))] := hD
      subst hrc
      refine lv_iadd hx hb dX5_clashesOf_24 ?_
      refine lv_istore (lv' := [(4, .int ((moI cb 2 x1 x2 x3) + (moI cb 3 x1 x2 x3))), (5, .int 3), (0, .ref m0), (1, .int x1), (2, .int x2), (3, .int x3)]) hx hb dX5_clashesOf_25 hl (by decide) rfl (fun ls hl => ?_)
      refine lv_iinc (v := 4) (lv' := [(5, .int 4), (4, .int ((moI cb 2 x1 x2 x3) + (moI cb 3 x1 x2 x3))), (0, .ref m0), (1, .int x1), (2, .int x2), (3, .int x3)]) hx hb dX5_clashesOf_27 hl (k := 1) rfl (by decide) (by decide) rfl (fun ls hl => ?_)
      refine lv_goto (tgt := 6) hx hb dX5_clashesOf_30 (by decide) ?_
      refine lv_iload hx hb dX5_clashesOf_6 (lv_at hl 0 rfl) ?_
      refine lv_bipush (v := 6) hx hb dX5_clashesOf_8 (by decide) ?_
      refine lv_icmp_ge (tgt := 33) hx hb dX5_clashesOf_10 (by decide) (fun c_10 => ?_) (fun c_10 => ?_)
      · exact absurd c_10 (by decide)
      · refine lv_iload hx hb dX5_clashesOf_13 (lv_at hl 1 rfl) ?_
        refine lv_aload_n hx hb dX5_clashesOf_15 rfl (lv_at hl 2 rfl) ?_
        refine lv_iload hx hb dX5_clashesOf_16 (lv_at hl 0 rfl) ?_
        refine lv_iload_n hx hb dX5_clashesOf_18 rfl (lv_at hl 3 rfl) ?_
        refine lv_iload_n hx hb dX5_clashesOf_19 rfl (lv_at hl 4 rfl) ?_
        refine lv_iload_n hx hb dX5_clashesOf_20 rfl (lv_at hl 5 rfl) ?_
        refine kc_i (wc := [(m0, .inr (5, [.int (nI tw), .int (nI cb), .ref kO, .ref lO, .int (nI tu), .int (nI ak), .int (nI se), .ref sC, .ref sW, .ref sD, .int (nI pl), .ref pG, .int iw, .int (nI nc), .ref wO, .ref fO, .ref mO, .ref cO, .long sn, .ref th, .int ik, .int (nI kt), .int (nI ku), .int (nI ks), .ref kK, .ref kL, .ref kC, .ref kW, .ref kD, .long hh]))]) (wr := []) (va_runV (As := [.int 4, .int x1, .int x2, .int x3]) (rest := [.int ((moI cb 2 x1 x2 x3) + (moI cb 3 x1 x2 x3))]) ⟨hx, hb, hml, hown, hts⟩ (g_X5_clashesOn l D cy H.size m0 kO lO sC sW sD pG wO fO mO cO th kK kL kC kW kD tw cb tu ak se pl iw nc sn ik kt ku ks hh 4 x1 x2 x3 hcb9) (cwV 4 hts gX5_clashesOf_X5_clashesOn rfl rfl rfl hdc_X5_clashesOn ⟨Nat.le_of_ble_eq_true rfl, Nat.le_of_ble_eq_true rfl⟩) (cpre_V (wc := [(m0, .inr (5, [.int (nI tw), .int (nI cb), .ref kO, .ref lO, .int (nI tu), .int (nI ak), .int (nI se), .ref sC, .ref sW, .ref sD, .int (nI pl), .ref pG, .int iw, .int (nI nc), .ref wO, .ref fO, .ref mO, .ref cO, .long sn, .ref th, .int ik, .int (nI kt), .int (nI ku), .int (nI ks), .ref kK, .ref kL, .ref kC, .ref kW, .ref kD, .long hh]))]) 0 5 rfl rfl hX hP hD hS hA [0] (by decide +kernel) rfl) rfl rfl hl.1 rfl (lv_room (Nat.le_of_ble_eq_true rfl)) dX5_clashesOf_21 ⟨Nat.le_of_ble_eq_true rfl, Nat.le_of_ble_eq_true rfl⟩) hP hD hS hA [0] [] rfl rfl (by decide +kernel) (by decide +kernel) (fun rc u4 H locs hw hP hD hS => ?_)
        obtain ⟨hu, hrc⟩ := hw
        subst hu
        have hP : va_P D vwCl [(m0, .inr (5, [.int (nI tw), .int (nI cb), .ref kO, .ref lO, .int (nI tu), .int (nI ak), .int (nI se), .ref sC, .ref sW, .ref sD, .int (nI pl), .ref pG, .int iw, .int (nI nc), .ref wO, .ref fO, .ref mO, .ref cO, .long sn, .ref th, .int ik, .int (nI kt), .int (nI ku), .int (nI ks), .ref kK, .ref kL, .ref kC, .ref kW, .ref kD, .long hh]))] H := hP
        have hD : va_D A [(m0, .inr (5, [.int (nI tw), .int (nI cb), .ref kO, .ref lO, .int (nI tu), .int (nI ak), .int (nI se), .ref sC, .ref sW, .ref sD, .int (nI pl), .ref pG, .int iw, .int (nI nc), .ref wO, .ref fO, .ref mO, .ref cO, .long sn, .ref th, .int ik, .int (nI kt), .int (nI ku), .int (nI ks), .ref kK, .ref kL, .ref kC, .ref kW, .ref kD, .long hh]))] := hD
        subst hrc
        refine lv_iadd hx hb dX5_clashesOf_24 ?_
        refine lv_istore (lv' := [(4, .int (((moI cb 2 x1 x2 x3) + (moI cb 3 x1 x2 x3)) + (moI cb 4 x1 x2 x3))), (5, .int 4), (0, .ref m0), (1, .int x1), (2, .int x2), (3, .int x3)]) hx hb dX5_clashesOf_25 hl (by decide) rfl (fun ls hl => ?_)
        refine lv_iinc (v := 5) (lv' := [(5, .int 5), (4, .int (((moI cb 2 x1 x2 x3) + (moI cb 3 x1 x2 x3)) + (moI cb 4 x1 x2 x3))), (0, .ref m0), (1, .int x1), (2, .int x2), (3, .int x3)]) hx hb dX5_clashesOf_27 hl (k := 1) rfl (by decide) (by decide) rfl (fun ls hl => ?_)
        refine lv_goto (tgt := 6) hx hb dX5_clashesOf_30 (by decide) ?_
        refine lv_iload hx hb dX5_clashesOf_6 (lv_at hl 0 rfl) ?_
        refine lv_bipush (v := 6) hx hb dX5_clashesOf_8 (by decide) ?_
        refine lv_icmp_ge (tgt := 33) hx hb dX5_clashesOf_10 (by decide) (fun c_10 => ?_) (fun c_10 => ?_)
        · exact absurd c_10 (by decide)
        · refine lv_iload hx hb dX5_clashesOf_13 (lv_at hl 1 rfl) ?_
          refine lv_aload_n hx hb dX5_clashesOf_15 rfl (lv_at hl 2 rfl) ?_
          refine lv_iload hx hb dX5_clashesOf_16 (lv_at hl 0 rfl) ?_
          refine lv_iload_n hx hb dX5_clashesOf_18 rfl (lv_at hl 3 rfl) ?_
          refine lv_iload_n hx hb dX5_clashesOf_19 rfl (lv_at hl 4 rfl) ?_
          refine lv_iload_n hx hb dX5_clashesOf_20 rfl (lv_at hl 5 rfl) ?_
          refine kc_i (wc := [(m0, .inr (5, [.int (nI tw), .int (nI cb), .ref kO, .ref lO, .int (nI tu), .int (nI ak), .int (nI se), .ref sC, .ref sW, .ref sD, .int (nI pl), .ref pG, .int iw, .int (nI nc), .ref wO, .ref fO, .ref mO, .ref cO, .long sn, .ref th, .int ik, .int (nI kt), .int (nI ku), .int (nI ks), .ref kK, .ref kL, .ref kC, .ref kW, .ref kD, .long hh]))]) (wr := []) (va_runV (As := [.int 5, .int x1, .int x2, .int x3]) (rest := [.int (((moI cb 2 x1 x2 x3) + (moI cb 3 x1 x2 x3)) + (moI cb 4 x1 x2 x3))]) ⟨hx, hb, hml, hown, hts⟩ (g_X5_clashesOn l D cy H.size m0 kO lO sC sW sD pG wO fO mO cO th kK kL kC kW kD tw cb tu ak se pl iw nc sn ik kt ku ks hh 5 x1 x2 x3 hcb9) (cwV 4 hts gX5_clashesOf_X5_clashesOn rfl rfl rfl hdc_X5_clashesOn ⟨Nat.le_of_ble_eq_true rfl, Nat.le_of_ble_eq_true rfl⟩) (cpre_V (wc := [(m0, .inr (5, [.int (nI tw), .int (nI cb), .ref kO, .ref lO, .int (nI tu), .int (nI ak), .int (nI se), .ref sC, .ref sW, .ref sD, .int (nI pl), .ref pG, .int iw, .int (nI nc), .ref wO, .ref fO, .ref mO, .ref cO, .long sn, .ref th, .int ik, .int (nI kt), .int (nI ku), .int (nI ks), .ref kK, .ref kL, .ref kC, .ref kW, .ref kD, .long hh]))]) 0 5 rfl rfl hX hP hD hS hA [0] (by decide +kernel) rfl) rfl rfl hl.1 rfl (lv_room (Nat.le_of_ble_eq_true rfl)) dX5_clashesOf_21 ⟨Nat.le_of_ble_eq_true rfl, Nat.le_of_ble_eq_true rfl⟩) hP hD hS hA [0] [] rfl rfl (by decide +kernel) (by decide +kernel) (fun rc u5 H locs hw hP hD hS => ?_)
          obtain ⟨hu, hrc⟩ := hw
          subst hu
          have hP : va_P D vwCl [(m0, .inr (5, [.int (nI tw), .int (nI cb), .ref kO, .ref lO, .int (nI tu), .int (nI ak), .int (nI se), .ref sC, .ref sW, .ref sD, .int (nI pl), .ref pG, .int iw, .int (nI nc), .ref wO, .ref fO, .ref mO, .ref cO, .long sn, .ref th, .int ik, .int (nI kt), .int (nI ku), .int (nI ks), .ref kK, .ref kL, .ref kC, .ref kW, .ref kD, .long hh]))] H := hP
          have hD : va_D A [(m0, .inr (5, [.int (nI tw), .int (nI cb), .ref kO, .ref lO, .int (nI tu), .int (nI ak), .int (nI se), .ref sC, .ref sW, .ref sD, .int (nI pl), .ref pG, .int iw, .int (nI nc), .ref wO, .ref fO, .ref mO, .ref cO, .long sn, .ref th, .int ik, .int (nI kt), .int (nI ku), .int (nI ks), .ref kK, .ref kL, .ref kC, .ref kW, .ref kD, .long hh]))] := hD
          subst hrc
          refine lv_iadd hx hb dX5_clashesOf_24 ?_
          refine lv_istore (lv' := [(4, .int ((((moI cb 2 x1 x2 x3) + (moI cb 3 x1 x2 x3)) + (moI cb 4 x1 x2 x3)) + (moI cb 5 x1 x2 x3))), (5, .int 5), (0, .ref m0), (1, .int x1), (2, .int x2), (3, .int x3)]) hx hb dX5_clashesOf_25 hl (by decide) rfl (fun ls hl => ?_)
          refine lv_iinc (v := 6) (lv' := [(5, .int 6), (4, .int ((((moI cb 2 x1 x2 x3) + (moI cb 3 x1 x2 x3)) + (moI cb 4 x1 x2 x3)) + (moI cb 5 x1 x2 x3))), (0, .ref m0), (1, .int x1), (2, .int x2), (3, .int x3)]) hx hb dX5_clashesOf_27 hl (k := 1) rfl (by decide) (by decide) rfl (fun ls hl => ?_)
          refine lv_goto (tgt := 6) hx hb dX5_clashesOf_30 (by decide) ?_
          refine lv_iload hx hb dX5_clashesOf_6 (lv_at hl 0 rfl) ?_
          refine lv_bipush (v := 6) hx hb dX5_clashesOf_8 (by decide) ?_
          refine lv_icmp_ge (tgt := 33) hx hb dX5_clashesOf_10 (by decide) (fun c_10 => ?_) (fun c_10 => ?_)
          · refine lv_iload hx hb dX5_clashesOf_33 (lv_at hl 1 rfl) ?_
            have hP9 := hP.sub (ws' := [(m0, .inr (5, [.int (nI tw), .int (nI cb), .ref kO, .ref lO, .int (nI tu), .int (nI ak), .int (nI se), .ref sC, .ref sW, .ref sD, .int (nI pl), .ref pG, .int iw, .int (nI nc), .ref wO, .ref fO, .ref mO, .ref cO, .long sn, .ref th, .int ik, .int (nI kt), .int (nI ku), .int (nI ks), .ref kK, .ref kL, .ref kC, .ref kW, .ref kD, .long hh]))]) [0] rfl
            have hD9 := hD.sub (ws' := [(m0, .inr (5, [.int (nI tw), .int (nI cb), .ref kO, .ref lO, .int (nI tu), .int (nI ak), .int (nI se), .ref sC, .ref sW, .ref sD, .int (nI pl), .ref pG, .int iw, .int (nI nc), .ref wO, .ref fO, .ref mO, .ref cO, .long sn, .ref th, .int ik, .int (nI kt), .int (nI ku), .int (nI ks), .ref kK, .ref kL, .ref kC, .ref kW, .ref kD, .long hh]))]) [0] (by decide +kernel) rfl
            exact W.iret (v := (((moI cb 2 x1 x2 x3) + (moI cb 3 x1 x2 x3)) + (moI cb 4 x1 x2 x3)) + (moI cb 5 x1 x2 x3)) hx hb hr (fun t9 ht9 hW9 => ⟨⟨(((moI cb 2 x1 x2 x3) + (moI cb 3 x1 x2 x3)) + (moI cb 4 x1 x2 x3)) + (moI cb 5 x1 x2 x3), [(m0, .inr (5, [.int (nI tw), .int (nI cb), .ref kO, .ref lO, .int (nI tu), .int (nI ak), .int (nI se), .ref sC, .ref sW, .ref sD, .int (nI pl), .ref pG, .int iw, .int (nI nc), .ref wO, .ref fO, .ref mO, .ref cO, .long sn, .ref th, .int ik, .int (nI kt), .int (nI ku), .int (nI ks), .ref kK, .ref kL, .ref kC, .ref kW, .ref kD, .long hh]))], rfl, ⟨rfl, rfl⟩, by rw [ht9]; exact hP9, hD9⟩, hS.F ht9⟩) hS.2.2 dX5_clashesOf_35
          · exact absurd c_10 (by decide)
def q_X5_clashes (cy : Nat → ClassId) (m0 : Nat) (kO : Nat) (lO : Nat) (sC : Nat) (sW : Nat) (sD : Nat) (pG : Nat) (wO : Nat) (fO : Nat) (mO : Nat) (cO : Nat) (th : Nat) (kK : Nat) (kL : Nat) (kC : Nat) (kW : Nat) (kD : Nat) (tw : Nat) (cb : Nat) (tu : Nat) (ak : Nat) (se : Nat) (pl : Nat) (iw : Int32) (nc : Nat) (sn : Int64) (ik : Int32) (kt : Nat) (ku : Nat) (ks : Nat) (hh : Int64) (ml : Nat → Int32) : Int32 → va_W → Prop := fun (r : Int32) (u : va_W) => u = [(m0, .inr (5, [.int (nI tw), .int (nI cb), .ref kO, .ref lO, .int (nI tu), .int (nI ak), .int (nI se), .ref sC, .ref sW, .ref sD, .int (nI pl), .ref pG, .int iw, .int (nI nc), .ref wO, .ref fO, .ref mO, .ref cO, .long sn, .ref th, .int ik, .int (nI kt), .int (nI ku), .int (nI ks), .ref kK, .ref kL, .ref kC, .ref kW, .ref kD, .long hh])), (lO, .inl (cy 0, 3, .inl ml))] ∧ r = mcI cb ml
set_option maxHeartbeats 4000000 in
set_option maxRecDepth 100000 in
theorem g_X5_clashes (l : Launch) (D : va_G) (cy : Nat → ClassId) (zz : Nat) (m0 : Nat) (kO : Nat) (lO : Nat) (sC : Nat) (sW : Nat) (sD : Nat) (pG : Nat) (wO : Nat) (fO : Nat) (mO : Nat) (cO : Nat) (th : Nat) (kK : Nat) (kL : Nat) (kC : Nat) (kW : Nat) (kD : Nat) (tw : Nat) (cb : Nat) (tu : Nat) (ak : Nat) (se : Nat) (pl : Nat) (iw : Int32) (nc : Nat) (sn : Int64) (ik : Int32) (kt : Nat) (ku : Nat) (ks : Nat) (hh : Int64) (ml : Nat → Int32) (hcb9 : cb < 4) : Met l yX5_clashes wsX5_clashes ({ frames := 4, cells := 0, slots := 0, locals := 92 } : Room) (va_Pc [.ref m0] (cpre D cy [(m0, .inr (5, [.int (nI tw), .int (nI cb), .ref kO, .ref lO, .int (nI tu), .int (nI ak), .int (nI se), .ref sC, .ref sW, .ref sD, .int (nI pl), .ref pG, .int iw, .int (nI nc), .ref wO, .ref fO, .ref mO, .ref cO, .long sn, .ref th, .int ik, .int (nI kt), .int (nI ku), .int (nI ks), .ref kK, .ref kL, .ref kC, .ref kW, .ref kD, .long hh])), (lO, .inl (cy 0, 3, .inl ml))] zz)) (va_Qi (q_X5_clashes cy m0 kO lO sC sW sD pG wO fO mO cO th kK kL kC kW kD tw cb tu ak se pl iw nc sn ik kt ku ks hh ml) (cpost D (va_A [(m0, .inr (5, [.int (nI tw), .int (nI cb), .ref kO, .ref lO, .int (nI tu), .int (nI ak), .int (nI se), .ref sC, .ref sW, .ref sD, .int (nI pl), .ref pG, .int iw, .int (nI nc), .ref wO, .ref fO, .ref mO, .ref cO, .long sn, .ref th, .int ik, .int (nI kt), .int (nI ku), .int (nI ks), .ref kK, .ref kL, .ref kC, .ref kW, .ref kD, .long hh])), (lO, .inl (cy 0, 3, .inl ml))] zz)) (va_A [(m0, .inr (5, [.int (nI tw), .int (nI cb), .ref kO, .ref lO, .int (nI tu), .int (nI ak), .int (nI se), .ref sC, .ref sW, .ref sD, .int (nI pl), .ref pG, .int iw, .int (nI nc), .ref wO, .ref fO, .ref mO, .ref cO, .long sn, .ref th, .int ik, .int (nI kt), .int (nI ku), .int (nI ks), .ref kK, .ref kL, .ref kC, .ref kW, .ref kD, .long hh])), (lO, .inl (cy 0, 3, .inl ml))] zz)) 0 0 (va_A [(m0, .inr (5, [.int (nI tw), .int (nI cb), .ref kO, .ref lO, .int (nI tu), .int (nI ak), .int (nI se), .ref sC, .ref sW, .ref sD, .int (nI pl), .ref pG, .int iw, .int (nI nc), .ref wO, .ref fO, .ref mO, .ref cO, .long sn, .ref th, .int ik, .int (nI kt), .int (nI ku), .int (nI ks), .ref kK, .ref kL, .ref kC, .ref kW, .ref kD, .long hh])), (lO, .inl (cy 0, 3, .inl ml))] zz) := by
  refine Met.ofW (cc := cX5_clashes) (maxL := 1) (ret := (some .int)) (by decide) rfl ?_
  intro p e s m args below meth c s₁ B hml hv
  obtain ⟨rfl, hsz, hP, hD0, hX⟩ := hv
  have hx := B.exec
  have hb := B.bytes
  have hr := B.returns
  have hts := atoms_spec (ws := wsX5_clashes) B.pre
  have hown : s.vm.findClass RX5 = some m.cls := findClass_of_methodNamed B.named
  have hlocks := B.notSynchronized
  subst hsz
  have hD := hD0.self (sz := s.heap.size)
  generalize hAe : va_A [(m0, .inr (5, [.int (nI tw), .int (nI cb), .ref kO, .ref lO, .int (nI tu), .int (nI ak), .int (nI se), .ref sC, .ref sW, .ref sD, .int (nI pl), .ref pG, .int iw, .int (nI nc), .ref wO, .ref fO, .ref mO, .ref cO, .long sn, .ref th, .int ik, .int (nI kt), .int (nI ku), .int (nI ks), .ref kK, .ref kL, .ref kC, .ref kW, .ref kD, .long hh])), (lO, .inl (cy 0, 3, .inl ml))] s.heap.size = A at hD hX ⊢
  have hA : ∀ q : Nat, s.heap.size ≤ q → A q := fun q h => by rw [← hAe]; exact Or.inr h
  obtain ⟨H, hH⟩ : ∃ H : Heap, H = s.heap := ⟨_, rfl⟩
  have hS : va_S A s.heap H [] := hH ▸ va_S.rf
  have hK := hX.1
  have hP : va_P D vwCl [(m0, .inr (5, [.int (nI tw), .int (nI cb), .ref kO, .ref lO, .int (nI tu), .int (nI ak), .int (nI se), .ref sC, .ref sW, .ref sD, .int (nI pl), .ref pG, .int iw, .int (nI nc), .ref wO, .ref fO, .ref mO, .ref cO, .long sn, .ref th, .int ik, .int (nI kt), .int (nI ku), .int (nI ks), .ref kK, .ref kL, .ref kC, .ref kW, .ref kD, .long hh])), (lO, .inl (cy 0, 3, .inl ml))] H := hH ▸ hP
  rw [← hH]
  have hw_X5 : ∀ w ∈ wsX50, w ∈ wsX5_clashes := chX5 (by decide +kernel)
  have f_88 := hts (.fieldLink RX5 88 "CubeTowerModel" "cubes" "I") (inC wa_662 (by decide +kernel))
  have f_13 := hts (.fieldLink RX5 13 "CubeTowerModel" "lies" "[I") (inC wa_202 (by decide +kernel))
  have hl := lv_entry ([.ref m0]) (n := 1) (Nat.le_of_ble_eq_true rfl)
  rw [lg_entry_eq]
  generalize (lg_sl ([.ref m0]) ++ List.replicate (1 - (lg_sl ([.ref m0])).length) Slot.unset).toArray = ls at hl ⊢
  have hl : lv_has ls 1 [(0, .ref m0)] := hl
  refine lv_aload_n hx hb dX5_clashes_0 rfl (lv_at hl 0 rfl) ?_
  refine va_get (D := D) (ci := 5) (v := .int (nI cb)) (C := RX5) (T := TX5) (N := 30) hx hb hts hw_X5 hown hK hP 0 rfl rfl 1 (by decide) f_88 (fun _ h9 => h9) rfl dX5_clashes_1 ?_
  refine lv_if_ne (tgt := 11) hx hb dX5_clashes_4 (by decide) (fun c_4 => ?_) (fun c_4 => ?_)
  · refine lv_aload_n hx hb dX5_clashes_11 rfl (lv_at hl 0 rfl) ?_
    refine lv_aload_n hx hb dX5_clashes_12 rfl (lv_at hl 0 rfl) ?_
    refine va_get (D := D) (ci := 5) (v := .ref lO) (C := RX5) (T := TX5) (N := 30) hx hb hts hw_X5 hown hK hP 0 rfl rfl 3 (by decide) f_13 (fun _ h9 => h9) rfl dX5_clashes_13 ?_
    refine lv_iconst (v := 0) hx hb dX5_clashes_16 (by decide) ?_
    refine va_iald hx hb hK hP 1 0 rfl rfl (vi_c (by decide +kernel)) dX5_clashes_17 ?_
    refine lv_topi (fun y1 ey1 => ?_)
    obtain rfl : y1 = ml 0 := ey1.trans (by first | rfl | exact congrArg ml (by decide))
    refine lv_aload_n hx hb dX5_clashes_18 rfl (lv_at hl 0 rfl) ?_
    refine va_get (D := D) (ci := 5) (v := .ref lO) (C := RX5) (T := TX5) (N := 30) hx hb hts hw_X5 hown hK hP 0 rfl rfl 3 (by decide) f_13 (fun _ h9 => h9) rfl dX5_clashes_19 ?_
    refine lv_iconst (v := 1) hx hb dX5_clashes_22 (by decide) ?_
    refine va_iald hx hb hK hP 1 0 rfl rfl (vi_c (by decide +kernel)) dX5_clashes_23 ?_
    refine lv_topi (fun y2 ey2 => ?_)
    obtain rfl : y2 = ml 1 := ey2.trans (by first | rfl | exact congrArg ml (by decide))
    refine lv_aload_n hx hb dX5_clashes_24 rfl (lv_at hl 0 rfl) ?_
    refine va_get (D := D) (ci := 5) (v := .ref lO) (C := RX5) (T := TX5) (N := 30) hx hb hts hw_X5 hown hK hP 0 rfl rfl 3 (by decide) f_13 (fun _ h9 => h9) rfl dX5_clashes_25 ?_
    refine lv_iconst (v := 2) hx hb dX5_clashes_28 (by decide) ?_
    refine va_iald hx hb hK hP 1 0 rfl rfl (vi_c (by decide +kernel)) dX5_clashes_29 ?_
    refine lv_topi (fun y3 ey3 => ?_)
    obtain rfl : y3 = ml 2 := ey3.trans (by first | rfl | exact congrArg ml (by decide))
    refine kc_i (wc := [(m0, .inr (5, [.int (nI tw), .int (nI cb), .ref kO, .ref lO, .int (nI tu), .int (nI ak), .int (nI se), .ref sC, .ref sW, .ref sD, .int (nI pl), .ref pG, .int iw, .int (nI nc), .ref wO, .ref fO, .ref mO, .ref cO, .long sn, .ref th, .int ik, .int (nI kt), .int (nI ku), .int (nI ks), .ref kK, .ref kL, .ref kC, .ref kW, .ref kD, .long hh]))]) (wr := [(lO, .inl (cy 0, 3, .inl ml))]) (va_runV (As := [.int (ml 0), .int (ml 1), .int (ml 2)]) (rest := []) ⟨hx, hb, hml, hown, hts⟩ (g_X5_clashesOf l D cy H.size m0 kO lO sC sW sD pG wO fO mO cO th kK kL kC kW kD tw cb tu ak se pl iw nc sn ik kt ku ks hh (ml 0) (ml 1) (ml 2) hcb9) (cwV 3 hts gX5_clashes_X5_clashesOf rfl rfl rfl hdc_X5_clashesOf ⟨Nat.le_of_ble_eq_true rfl, Nat.le_of_ble_eq_true rfl⟩) (cpre_V (wc := [(m0, .inr (5, [.int (nI tw), .int (nI cb), .ref kO, .ref lO, .int (nI tu), .int (nI ak), .int (nI se), .ref sC, .ref sW, .ref sD, .int (nI pl), .ref pG, .int iw, .int (nI nc), .ref wO, .ref fO, .ref mO, .ref cO, .long sn, .ref th, .int ik, .int (nI kt), .int (nI ku), .int (nI ks), .ref kK, .ref kL, .ref kC, .ref kW, .ref kD, .long hh]))]) 0 5 rfl rfl hX hP hD hS hA [0] (by decide +kernel) rfl) rfl rfl hl.1 rfl (lv_room (Nat.le_of_ble_eq_true rfl)) dX5_clashes_30 ⟨Nat.le_of_ble_eq_true rfl, Nat.le_of_ble_eq_true rfl⟩) hP hD hS hA [0] [1] rfl rfl (by decide +kernel) (by decide +kernel) (fun rc u4 H locs hw hP hD hS => ?_)
    obtain ⟨hu, hrc⟩ := hw
    subst hu
    have hP : va_P D vwCl [(lO, .inl (cy 0, 3, .inl ml)), (m0, .inr (5, [.int (nI tw), .int (nI cb), .ref kO, .ref lO, .int (nI tu), .int (nI ak), .int (nI se), .ref sC, .ref sW, .ref sD, .int (nI pl), .ref pG, .int iw, .int (nI nc), .ref wO, .ref fO, .ref mO, .ref cO, .long sn, .ref th, .int ik, .int (nI kt), .int (nI ku), .int (nI ks), .ref kK, .ref kL, .ref kC, .ref kW, .ref kD, .long hh]))] H := hP
    have hD : va_D A [(lO, .inl (cy 0, 3, .inl ml)), (m0, .inr (5, [.int (nI tw), .int (nI cb), .ref kO, .ref lO, .int (nI tu), .int (nI ak), .int (nI se), .ref sC, .ref sW, .ref sD, .int (nI pl), .ref pG, .int iw, .int (nI nc), .ref wO, .ref fO, .ref mO, .ref cO, .long sn, .ref th, .int ik, .int (nI kt), .int (nI ku), .int (nI ks), .ref kK, .ref kL, .ref kC, .ref kW, .ref kD, .long hh]))] := hD
    subst hrc
    have hP9 := hP.sub (ws' := [(m0, .inr (5, [.int (nI tw), .int (nI cb), .ref kO, .ref lO, .int (nI tu), .int (nI ak), .int (nI se), .ref sC, .ref sW, .ref sD, .int (nI pl), .ref pG, .int iw, .int (nI nc), .ref wO, .ref fO, .ref mO, .ref cO, .long sn, .ref th, .int ik, .int (nI kt), .int (nI ku), .int (nI ks), .ref kK, .ref kL, .ref kC, .ref kW, .ref kD, .long hh])), (lO, .inl (cy 0, 3, .inl ml))]) [1, 0] rfl
    have hD9 := hD.sub (ws' := [(m0, .inr (5, [.int (nI tw), .int (nI cb), .ref kO, .ref lO, .int (nI tu), .int (nI ak), .int (nI se), .ref sC, .ref sW, .ref sD, .int (nI pl), .ref pG, .int iw, .int (nI nc), .ref wO, .ref fO, .ref mO, .ref cO, .long sn, .ref th, .int ik, .int (nI kt), .int (nI ku), .int (nI ks), .ref kK, .ref kL, .ref kC, .ref kW, .ref kD, .long hh])), (lO, .inl (cy 0, 3, .inl ml))]) [1, 0] (by decide +kernel) rfl
    exact W.iret (v := mfI cb (ml 0) (ml 1) (ml 2)) hx hb hr (fun t9 ht9 hW9 => ⟨⟨mfI cb (ml 0) (ml 1) (ml 2), [(m0, .inr (5, [.int (nI tw), .int (nI cb), .ref kO, .ref lO, .int (nI tu), .int (nI ak), .int (nI se), .ref sC, .ref sW, .ref sD, .int (nI pl), .ref pG, .int iw, .int (nI nc), .ref wO, .ref fO, .ref mO, .ref cO, .long sn, .ref th, .int ik, .int (nI kt), .int (nI ku), .int (nI ks), .ref kK, .ref kL, .ref kC, .ref kW, .ref kD, .long hh])), (lO, .inl (cy 0, 3, .inl ml))], rfl, ⟨rfl, (if_neg (fun q => c_4 (by rw [q]; rfl))).symm⟩, by rw [ht9]; exact hP9, hD9⟩, hS.F ht9⟩) hS.2.2 dX5_clashes_33
  · refine lv_iconst (v := 0) hx hb dX5_clashes_7 (by decide) ?_
    refine lv_goto (tgt := 33) hx hb dX5_clashes_8 (by decide) ?_
    have hP9 := hP.sub (ws' := [(m0, .inr (5, [.int (nI tw), .int (nI cb), .ref kO, .ref lO, .int (nI tu), .int (nI ak), .int (nI se), .ref sC, .ref sW, .ref sD, .int (nI pl), .ref pG, .int iw, .int (nI nc), .ref wO, .ref fO, .ref mO, .ref cO, .long sn, .ref th, .int ik, .int (nI kt), .int (nI ku), .int (nI ks), .ref kK, .ref kL, .ref kC, .ref kW, .ref kD, .long hh])), (lO, .inl (cy 0, 3, .inl ml))]) [0, 1] rfl
    have hD9 := hD.sub (ws' := [(m0, .inr (5, [.int (nI tw), .int (nI cb), .ref kO, .ref lO, .int (nI tu), .int (nI ak), .int (nI se), .ref sC, .ref sW, .ref sD, .int (nI pl), .ref pG, .int iw, .int (nI nc), .ref wO, .ref fO, .ref mO, .ref cO, .long sn, .ref th, .int ik, .int (nI kt), .int (nI ku), .int (nI ks), .ref kK, .ref kL, .ref kC, .ref kW, .ref kD, .long hh])), (lO, .inl (cy 0, 3, .inl ml))]) [0, 1] (by decide +kernel) rfl
    exact W.iret (v := 0) hx hb hr (fun t9 ht9 hW9 => ⟨⟨0, [(m0, .inr (5, [.int (nI tw), .int (nI cb), .ref kO, .ref lO, .int (nI tu), .int (nI ak), .int (nI se), .ref sC, .ref sW, .ref sD, .int (nI pl), .ref pG, .int iw, .int (nI nc), .ref wO, .ref fO, .ref mO, .ref cO, .long sn, .ref th, .int ik, .int (nI kt), .int (nI ku), .int (nI ks), .ref kK, .ref kL, .ref kC, .ref kW, .ref kD, .long hh])), (lO, .inl (cy 0, 3, .inl ml))], rfl, ⟨rfl, (if_pos (nI_z (by omega) c_4)).symm⟩, by rw [ht9]; exact hP9, hD9⟩, hS.F ht9⟩) hS.2.2 dX5_clashes_33
