def q_X5_take (cy : Nat → ClassId) (m0 : Nat) (kO : Nat) (lO : Nat) (sC : Nat) (sW : Nat) (sD : Nat) (pG : Nat) (wO : Nat) (fO : Nat) (mO : Nat) (cO : Nat) (th : Nat) (kK : Nat) (kL : Nat) (kC : Nat) (kW : Nat) (kD : Nat) (tw : Nat) (cb : Nat) (tu : Nat) (ak : Nat) (se : Nat) (pl : Nat) (iw : Int32) (nc : Nat) (sn : Int64) (ik : Int32) (kt : Nat) (ku : Nat) (ks : Nat) (hh : Int64) (mn : Nat → Nat) (w1 : Nat → Int32) (w2 : Nat → Int32) (J : Nat) (wI : Int32) (fI : Int32) : va_W → Prop := fun (u : va_W) => ∃ (m2 : Nat → Nat), ∃ (v1 : Nat → Int32), ∃ (v2 : Nat → Int32), u = [(m0, .inr (5, [.int (nI tw), .int (nI cb), .ref kO, .ref lO, .int (nI tu), .int (nI ak), .int (nI se), .ref sC, .ref sW, .ref sD, .int (nI pl), .ref pG, .int iw, .int (nI nc), .ref wO, .ref fO, .ref mO, .ref cO, .long sn, .ref th, .int ik, .int (nI kt), .int (nI ku), .int (nI ks), .ref kK, .ref kL, .ref kC, .ref kW, .ref kD, .long hh])), (mO, .inl (cy 0, 3, .inl (fun j => nI (m2 j)))), (wO, .inl (cy 0, 72, .inl v1)), (fO, .inl (cy 0, 72, .inl v2))] ∧ WS v1 (24 * J) (m2 J) ∧ mn J ≤ m2 J ∧ 1 ≤ m2 J ∧ (∀ j, ¬ j = J → m2 j = mn j) ∧ (∀ i, (i < 24 * J ∨ 24 * J + 24 ≤ i) → v1 i = w1 i) ∧ TkF J mn w1 w2 wI fI m2 v1 v2
set_option maxHeartbeats 4000000 in
set_option maxRecDepth 100000 in
theorem g_X5_take (l : Launch) (D : va_G) (cy : Nat → ClassId) (zz : Nat) (m0 : Nat) (kO : Nat) (lO : Nat) (sC : Nat) (sW : Nat) (sD : Nat) (pG : Nat) (wO : Nat) (fO : Nat) (mO : Nat) (cO : Nat) (th : Nat) (kK : Nat) (kL : Nat) (kC : Nat) (kW : Nat) (kD : Nat) (tw : Nat) (cb : Nat) (tu : Nat) (ak : Nat) (se : Nat) (pl : Nat) (iw : Int32) (nc : Nat) (sn : Int64) (ik : Int32) (kt : Nat) (ku : Nat) (ks : Nat) (hh : Int64) (mn : Nat → Nat) (w1 : Nat → Int32) (w2 : Nat → Int32) (J : Nat) (wI : Int32) (fI : Int32) (hJ : J < 3) (hws : WS w1 (24 * J) (mn J)) (hgw : wI ∈ GW) : Met l yX5_take wsX5_take ({ frames := 0, cells := 0, slots := 0, locals := 0 } : Room) (va_Pc [.ref m0, .int (nI J), .int wI, .int fI] (cpre D cy [(m0, .inr (5, [.int (nI tw), .int (nI cb), .ref kO, .ref lO, .int (nI tu), .int (nI ak), .int (nI se), .ref sC, .ref sW, .ref sD, .int (nI pl), .ref pG, .int iw, .int (nI nc), .ref wO, .ref fO, .ref mO, .ref cO, .long sn, .ref th, .int ik, .int (nI kt), .int (nI ku), .int (nI ks), .ref kK, .ref kL, .ref kC, .ref kW, .ref kD, .long hh])), (mO, .inl (cy 0, 3, .inl (fun j => nI (mn j)))), (wO, .inl (cy 0, 72, .inl w1)), (fO, .inl (cy 0, 72, .inl w2))] zz)) (va_Qv (q_X5_take cy m0 kO lO sC sW sD pG wO fO mO cO th kK kL kC kW kD tw cb tu ak se pl iw nc sn ik kt ku ks hh mn w1 w2 J wI fI) (cpost D (va_A [(m0, .inr (5, [.int (nI tw), .int (nI cb), .ref kO, .ref lO, .int (nI tu), .int (nI ak), .int (nI se), .ref sC, .ref sW, .ref sD, .int (nI pl), .ref pG, .int iw, .int (nI nc), .ref wO, .ref fO, .ref mO, .ref cO, .long sn, .ref th, .int ik, .int (nI kt), .int (nI ku), .int (nI ks), .ref kK, .ref kL, .ref kC, .ref kW, .ref kD, .long hh])), (mO, .inl (cy 0, 3, .inl (fun j => nI (mn j)))), (wO, .inl (cy 0, 72, .inl w1)), (fO, .inl (cy 0, 72, .inl w2))] zz)) (va_A [(m0, .inr (5, [.int (nI tw), .int (nI cb), .ref kO, .ref lO, .int (nI tu), .int (nI ak), .int (nI se), .ref sC, .ref sW, .ref sD, .int (nI pl), .ref pG, .int iw, .int (nI nc), .ref wO, .ref fO, .ref mO, .ref cO, .long sn, .ref th, .int ik, .int (nI kt), .int (nI ku), .int (nI ks), .ref kK, .ref kL, .ref kC, .ref kW, .ref kD, .long hh])), (mO, .inl (cy 0, 3, .inl (fun j => nI (mn j)))), (wO, .inl (cy 0, 72, .inl w1)), (fO, .inl (cy 0, 72, .inl w2))] zz)) 0 0 (va_A [(m0, .inr (5, [.int (nI tw), .int (nI cb), .ref kO, .ref lO, .int (nI tu), .int (nI ak), .int (nI se), .ref sC, .ref sW, .ref sD, .int (nI pl), .ref pG, .int iw, .int (nI nc), .ref wO, .ref fO, .ref mO, .ref cO, .long sn, .ref th, .int ik, .int (nI kt), .int (nI ku), .int (nI ks), .ref kK, .ref kL, .ref kC, .ref kW, .ref kD, .long hh])), (mO, .inl (cy 0, 3, .inl (fun j => nI (mn j)))), (wO, .inl (cy 0, 72, .inl w1)), (fO, .inl (cy 0, 72, .inl w2))] zz) := by
  refine Met.ofW (cc := cX5_take) (maxL := 5) (ret := none) (by decide) rfl ?_
  intro p e s m args below meth c s₁ B hml hv
  obtain ⟨rfl, hsz, hP, hD0, hX⟩ := hv
  have hx := B.exec
  have hb := B.bytes
  have hr := B.returns
  have hts := atoms_spec (ws := wsX5_take) B.pre
  have hown : s.vm.findClass RX5 = some m.cls := findClass_of_methodNamed B.named
  have hlocks := B.notSynchronized
  subst hsz
  have hD := hD0.self (sz := s.heap.size)
  generalize hAe : va_A [(m0, .inr (5, [.int (nI tw), .int (nI cb), .ref kO, .ref lO, .int (nI tu), .int (nI ak), .int (nI se), .ref sC, .ref sW, .ref sD, .int (nI pl), .ref pG, .int iw, .int (nI nc), .ref wO, .ref fO, .ref mO, .ref cO, .long sn, .ref th, .int ik, .int (nI kt), .int (nI ku), .int (nI ks), .ref kK, .ref kL, .ref kC, .ref kW, .ref kD, .long hh])), (mO, .inl (cy 0, 3, .inl (fun j => nI (mn j)))), (wO, .inl (cy 0, 72, .inl w1)), (fO, .inl (cy 0, 72, .inl w2))] s.heap.size = A at hD hX ⊢
  have hA : ∀ q : Nat, s.heap.size ≤ q → A q := fun q h => by rw [← hAe]; exact Or.inr h
  obtain ⟨H, hH⟩ : ∃ H : Heap, H = s.heap := ⟨_, rfl⟩
  have hS : va_S A s.heap H [] := hH ▸ va_S.rf
  have hK := hX.1
  have hP : va_P D vwCl [(m0, .inr (5, [.int (nI tw), .int (nI cb), .ref kO, .ref lO, .int (nI tu), .int (nI ak), .int (nI se), .ref sC, .ref sW, .ref sD, .int (nI pl), .ref pG, .int iw, .int (nI nc), .ref wO, .ref fO, .ref mO, .ref cO, .long sn, .ref th, .int ik, .int (nI kt), .int (nI ku), .int (nI ks), .ref kK, .ref kL, .ref kC, .ref kW, .ref kD, .long hh])), (mO, .inl (cy 0, 3, .inl (fun j => nI (mn j)))), (wO, .inl (cy 0, 72, .inl w1)), (fO, .inl (cy 0, 72, .inl w2))] H := hH ▸ hP
  rw [← hH]
  have hw_X5 : ∀ w ∈ wsX50, w ∈ wsX5_take := chX5 (by decide +kernel)
  have f_35 := hts (.fieldLink RX5 35 "CubeTowerModel" "manyOf" "[I") (inC wa_210 (by decide +kernel))
  have f_29 := hts (.fieldLink RX5 29 "CubeTowerModel" "wayOf" "[I") (inC wa_208 (by decide +kernel))
  have f_32 := hts (.fieldLink RX5 32 "CubeTowerModel" "farOf" "[I") (inC wa_209 (by decide +kernel))
  have hl := lv_entry ([.ref m0, .int (nI J), .int wI, .int fI]) (n := 5) (Nat.le_of_ble_eq_true rfl)
  rw [lg_entry_eq]
  generalize (lg_sl ([.ref m0, .int (nI J), .int wI, .int fI]) ++ List.replicate (5 - (lg_sl ([.ref m0, .int (nI J), .int wI, .int fI])).length) Slot.unset).toArray = ls at hl ⊢
  have hl : lv_has ls 5 [(0, .ref m0), (1, .int (nI J)), (2, .int wI), (3, .int fI)] := hl
  refine lv_iconst (v := 0) hx hb dX5_take_0 (by decide) ?_
  refine lv_istore (lv' := [(4, .int 0), (0, .ref m0), (1, .int (nI J)), (2, .int wI), (3, .int fI)]) hx hb dX5_take_1 hl (by decide) rfl (fun ls hl => ?_)
  have lp_3 : ∀ (n_3 : Nat) (k : Nat) (hk9 : k ≤ mn J) (hI : ∀ i, i < k → ¬ w1 (24 * J + i) = wI) (hm : 24 < k + n_3) (H : Heap) (locs : List Loc) (ls : Array Slot), va_P D vwCl [(m0, .inr (5, [.int (nI tw), .int (nI cb), .ref kO, .ref lO, .int (nI tu), .int (nI ak), .int (nI se), .ref sC, .ref sW, .ref sD, .int (nI pl), .ref pG, .int iw, .int (nI nc), .ref wO, .ref fO, .ref mO, .ref cO, .long sn, .ref th, .int ik, .int (nI kt), .int (nI ku), .int (nI ks), .ref kK, .ref kL, .ref kC, .ref kW, .ref kD, .long hh])), (mO, .inl (cy 0, 3, .inl (fun j => nI (mn j)))), (wO, .inl (cy 0, 72, .inl w1)), (fO, .inl (cy 0, 72, .inl w2))] H → va_D A [(m0, .inr (5, [.int (nI tw), .int (nI cb), .ref kO, .ref lO, .int (nI tu), .int (nI ak), .int (nI se), .ref sC, .ref sW, .ref sD, .int (nI pl), .ref pG, .int iw, .int (nI nc), .ref wO, .ref fO, .ref mO, .ref cO, .long sn, .ref th, .int ik, .int (nI kt), .int (nI ku), .int (nI ks), .ref kK, .ref kL, .ref kC, .ref kW, .ref kD, .long hh])), (mO, .inl (cy 0, 3, .inl (fun j => nI (mn j)))), (wO, .inl (cy 0, 72, .inl w1)), (fO, .inl (cy 0, 72, .inl w2))] → va_S A s.heap H locs → lv_has ls 5 [(0, .ref m0), (1, .int (nI J)), (2, .int wI), (3, .int fI), (4, .int (nI k))] → W p l e (headSpec wsX5_take ({ frames := 0, cells := 0, slots := 0, locals := 0 } : Room)).room s m ([.ref m0, .int (nI J), .int wI, .int fI] : List Value).toArray below meth c H locs 0 0 (MQ below (va_Qv (q_X5_take cy m0 kO lO sC sW sD pG wO fO mO cO th kK kL kC kW kD tw cb tu ak se pl iw nc sn ik kt ku ks hh mn w1 w2 J wI fI) (cpost D A) A) ([.ref m0, .int (nI J), .int wI, .int fI] : List Value).toArray s 0 0 A) (F0 m 3 ls []) := by
    intro n_3
    induction n_3 with
    | zero => intro k hk9 hI hm; exact absurd hm (by have h9 := hws.1; omega)
    | succ n_3 ih_3 =>
      intro k hk9 hI hm H locs ls hP hD hS hl
      refine lv_iload hx hb dX5_take_3 (lv_at hl 4 rfl) ?_
      refine lv_aload_n hx hb dX5_take_5 rfl (lv_at hl 0 rfl) ?_
      refine va_get (D := D) (ci := 5) (v := .ref mO) (C := RX5) (T := TX5) (N := 30) hx hb hts hw_X5 hown hK hP 0 rfl rfl 16 (by decide) f_35 (fun _ h9 => h9) rfl dX5_take_6 ?_
      refine lv_iload_n hx hb dX5_take_9 rfl (lv_at hl 1 rfl) ?_
      refine va_iald hx hb hK hP 1 0 rfl rfl (nI_in hJ (by decide)) dX5_take_10 ?_
      refine lv_topi (fun y1 ey1 => ?_)
      obtain rfl : y1 = nI (mn J) := ey1.trans (congrArg (fun j => nI (mn j)) (nI_clamp (by omega)))
      refine lv_icmp_ge (tgt := 37) hx hb dX5_take_11 (by decide) (fun c_11 => ?_) (fun c_11 => ?_)
      · have hkn : k = mn J := Nat.le_antisymm hk9 (nI_leN (by have h9 := hws.1; omega) c_11)
        have hI9 : ∀ i, i < mn J → ¬ w1 (24 * J + i) = wI := fun i hi => hI i (by omega)
        have hn24 : mn J < 24 := WS_lt hws hgw hI9
        refine lv_aload_n hx hb dX5_take_37 rfl (lv_at hl 0 rfl) ?_
        refine va_get (D := D) (ci := 5) (v := .ref wO) (C := RX5) (T := TX5) (N := 30) hx hb hts hw_X5 hown hK hP 0 rfl rfl 14 (by decide) f_29 (fun _ h9 => h9) rfl dX5_take_38 ?_
        refine lv_bipush (v := 24) hx hb dX5_take_41 (by decide) ?_
        refine lv_iload_n hx hb dX5_take_43 rfl (lv_at hl 1 rfl) ?_
        refine lv_imul hx hb dX5_take_44 ?_
        refine lv_topi (fun y2 ey2 => ?_)
        obtain rfl : y2 = nI (24 * J) := ey2.trans (nIm 24 J)
        refine lv_aload_n hx hb dX5_take_45 rfl (lv_at hl 0 rfl) ?_
        refine va_get (D := D) (ci := 5) (v := .ref mO) (C := RX5) (T := TX5) (N := 30) hx hb hts hw_X5 hown hK hP 0 rfl rfl 16 (by decide) f_35 (fun _ h9 => h9) rfl dX5_take_46 ?_
        refine lv_iload_n hx hb dX5_take_49 rfl (lv_at hl 1 rfl) ?_
        refine va_iald hx hb hK hP 1 0 rfl rfl (nI_in hJ (by decide)) dX5_take_50 ?_
        refine lv_topi (fun y3 ey3 => ?_)
        obtain rfl : y3 = nI (mn J) := ey3.trans (congrArg (fun j => nI (mn j)) (nI_clamp (by omega)))
        refine lv_iadd hx hb dX5_take_51 ?_
        refine lv_topi (fun y4 ey4 => ?_)
        obtain rfl : y4 = nI (24 * J + mn J) := ey4.trans (nIa _ _)
        refine lv_iload_n hx hb dX5_take_52 rfl (lv_at hl 2 rfl) ?_
        refine va_iast hx hb hK hP hD hS 2 0 rfl rfl (nI_in (by omega) (by decide)) dX5_take_53 (fun H locs hP hD hS => ?_)
        rw [show (nI (24 * J + mn J)).toNatClampNeg = 24 * J + mn J from nI_clamp (by omega)] at hP hD
        have hP : va_P D vwCl [(m0, .inr (5, [.int (nI tw), .int (nI cb), .ref kO, .ref lO, .int (nI tu), .int (nI ak), .int (nI se), .ref sC, .ref sW, .ref sD, .int (nI pl), .ref pG, .int iw, .int (nI nc), .ref wO, .ref fO, .ref mO, .ref cO, .long sn, .ref th, .int ik, .int (nI kt), .int (nI ku), .int (nI ks), .ref kK, .ref kL, .ref kC, .ref kW, .ref kD, .long hh])), (mO, .inl (cy 0, 3, .inl (fun j => nI (mn j)))), (wO, .inl (cy 0, 72, .inl (upd w1 (24 * J + mn J) wI))), (fO, .inl (cy 0, 72, .inl w2))] H := hP
        have hD : va_D A [(m0, .inr (5, [.int (nI tw), .int (nI cb), .ref kO, .ref lO, .int (nI tu), .int (nI ak), .int (nI se), .ref sC, .ref sW, .ref sD, .int (nI pl), .ref pG, .int iw, .int (nI nc), .ref wO, .ref fO, .ref mO, .ref cO, .long sn, .ref th, .int ik, .int (nI kt), .int (nI ku), .int (nI ks), .ref kK, .ref kL, .ref kC, .ref kW, .ref kD, .long hh])), (mO, .inl (cy 0, 3, .inl (fun j => nI (mn j)))), (wO, .inl (cy 0, 72, .inl (upd w1 (24 * J + mn J) wI))), (fO, .inl (cy 0, 72, .inl w2))] := hD
        refine lv_aload_n hx hb dX5_take_54 rfl (lv_at hl 0 rfl) ?_
        refine va_get (D := D) (ci := 5) (v := .ref fO) (C := RX5) (T := TX5) (N := 30) hx hb hts hw_X5 hown hK hP 0 rfl rfl 15 (by decide) f_32 (fun _ h9 => h9) rfl dX5_take_55 ?_
        refine lv_bipush (v := 24) hx hb dX5_take_58 (by decide) ?_
        refine lv_iload_n hx hb dX5_take_60 rfl (lv_at hl 1 rfl) ?_
        refine lv_imul hx hb dX5_take_61 ?_
        refine lv_topi (fun y5 ey5 => ?_)
        obtain rfl : y5 = nI (24 * J) := ey5.trans (nIm 24 J)
        refine lv_aload_n hx hb dX5_take_62 rfl (lv_at hl 0 rfl) ?_
        refine va_get (D := D) (ci := 5) (v := .ref mO) (C := RX5) (T := TX5) (N := 30) hx hb hts hw_X5 hown hK hP 0 rfl rfl 16 (by decide) f_35 (fun _ h9 => h9) rfl dX5_take_63 ?_
        refine lv_iload_n hx hb dX5_take_66 rfl (lv_at hl 1 rfl) ?_
        refine va_iald hx hb hK hP 1 0 rfl rfl (nI_in hJ (by decide)) dX5_take_67 ?_
        refine lv_topi (fun y6 ey6 => ?_)
        obtain rfl : y6 = nI (mn J) := ey6.trans (congrArg (fun j => nI (mn j)) (nI_clamp (by omega)))
        refine lv_iadd hx hb dX5_take_68 ?_
        refine lv_topi (fun y7 ey7 => ?_)
        obtain rfl : y7 = nI (24 * J + mn J) := ey7.trans (nIa _ _)
        refine lv_iload_n hx hb dX5_take_69 rfl (lv_at hl 3 rfl) ?_
        refine va_iast hx hb hK hP hD hS 3 0 rfl rfl (nI_in (by omega) (by decide)) dX5_take_70 (fun H locs hP hD hS => ?_)
        rw [show (nI (24 * J + mn J)).toNatClampNeg = 24 * J + mn J from nI_clamp (by omega)] at hP hD
        have hP : va_P D vwCl [(m0, .inr (5, [.int (nI tw), .int (nI cb), .ref kO, .ref lO, .int (nI tu), .int (nI ak), .int (nI se), .ref sC, .ref sW, .ref sD, .int (nI pl), .ref pG, .int iw, .int (nI nc), .ref wO, .ref fO, .ref mO, .ref cO, .long sn, .ref th, .int ik, .int (nI kt), .int (nI ku), .int (nI ks), .ref kK, .ref kL, .ref kC, .ref kW, .ref kD, .long hh])), (mO, .inl (cy 0, 3, .inl (fun j => nI (mn j)))), (wO, .inl (cy 0, 72, .inl (upd w1 (24 * J + mn J) wI))), (fO, .inl (cy 0, 72, .inl (upd w2 (24 * J + mn J) fI)))] H := hP
        have hD : va_D A [(m0, .inr (5, [.int (nI tw), .int (nI cb), .ref kO, .ref lO, .int (nI tu), .int (nI ak), .int (nI se), .ref sC, .ref sW, .ref sD, .int (nI pl), .ref pG, .int iw, .int (nI nc), .ref wO, .ref fO, .ref mO, .ref cO, .long sn, .ref th, .int ik, .int (nI kt), .int (nI ku), .int (nI ks), .ref kK, .ref kL, .ref kC, .ref kW, .ref kD, .long hh])), (mO, .inl (cy 0, 3, .inl (fun j => nI (mn j)))), (wO, .inl (cy 0, 72, .inl (upd w1 (24 * J + mn J) wI))), (fO, .inl (cy 0, 72, .inl (upd w2 (24 * J + mn J) fI)))] := hD
        refine lv_aload_n hx hb dX5_take_71 rfl (lv_at hl 0 rfl) ?_
        refine va_get (D := D) (ci := 5) (v := .ref mO) (C := RX5) (T := TX5) (N := 30) hx hb hts hw_X5 hown hK hP 0 rfl rfl 16 (by decide) f_35 (fun _ h9 => h9) rfl dX5_take_72 ?_
        refine lv_iload_n hx hb dX5_take_75 rfl (lv_at hl 1 rfl) ?_
        refine lv_dup2_11 hx hb dX5_take_76 rfl rfl ?_
        refine va_iald hx hb hK hP 1 0 rfl rfl (nI_in hJ (by decide)) dX5_take_77 ?_
        refine lv_topi (fun y8 ey8 => ?_)
        obtain rfl : y8 = nI (mn J) := ey8.trans (congrArg (fun j => nI (mn j)) (nI_clamp (by omega)))
        refine lv_iconst (v := 1) hx hb dX5_take_78 (by decide) ?_
        refine lv_iadd hx hb dX5_take_79 ?_
        refine lv_topi (fun y9 ey9 => ?_)
        obtain rfl : y9 = nI (mn J + 1) := ey9.trans ((nI_succ _).symm)
        refine va_iast hx hb hK hP hD hS 1 0 rfl rfl (nI_in hJ (by decide)) dX5_take_80 (fun H locs hP hD hS => ?_)
        rw [show (nI J).toNatClampNeg = J from nI_clamp (by omega)] at hP hD
        have hP : va_P D vwCl [(m0, .inr (5, [.int (nI tw), .int (nI cb), .ref kO, .ref lO, .int (nI tu), .int (nI ak), .int (nI se), .ref sC, .ref sW, .ref sD, .int (nI pl), .ref pG, .int iw, .int (nI nc), .ref wO, .ref fO, .ref mO, .ref cO, .long sn, .ref th, .int ik, .int (nI kt), .int (nI ku), .int (nI ks), .ref kK, .ref kL, .ref kC, .ref kW, .ref kD, .long hh])), (mO, .inl (cy 0, 3, .inl (upd (fun j => nI (mn j)) J (nI (mn J + 1))))), (wO, .inl (cy 0, 72, .inl (upd w1 (24 * J + mn J) wI))), (fO, .inl (cy 0, 72, .inl (upd w2 (24 * J + mn J) fI)))] H := hP
        have hD : va_D A [(m0, .inr (5, [.int (nI tw), .int (nI cb), .ref kO, .ref lO, .int (nI tu), .int (nI ak), .int (nI se), .ref sC, .ref sW, .ref sD, .int (nI pl), .ref pG, .int iw, .int (nI nc), .ref wO, .ref fO, .ref mO, .ref cO, .long sn, .ref th, .int ik, .int (nI kt), .int (nI ku), .int (nI ks), .ref kK, .ref kL, .ref kC, .ref kW, .ref kD, .long hh])), (mO, .inl (cy 0, 3, .inl (upd (fun j => nI (mn j)) J (nI (mn J + 1))))), (wO, .inl (cy 0, 72, .inl (upd w1 (24 * J + mn J) wI))), (fO, .inl (cy 0, 72, .inl (upd w2 (24 * J + mn J) fI)))] := hD
        rw [updN mn J (mn J + 1)] at hP hD
        have hP : va_P D vwCl [(m0, .inr (5, [.int (nI tw), .int (nI cb), .ref kO, .ref lO, .int (nI tu), .int (nI ak), .int (nI se), .ref sC, .ref sW, .ref sD, .int (nI pl), .ref pG, .int iw, .int (nI nc), .ref wO, .ref fO, .ref mO, .ref cO, .long sn, .ref th, .int ik, .int (nI kt), .int (nI ku), .int (nI ks), .ref kK, .ref kL, .ref kC, .ref kW, .ref kD, .long hh])), (mO, .inl (cy 0, 3, .inl (fun j => nI ((va_up mn J (mn J + 1)) j)))), (wO, .inl (cy 0, 72, .inl (upd w1 (24 * J + mn J) wI))), (fO, .inl (cy 0, 72, .inl (upd w2 (24 * J + mn J) fI)))] H := hP
        have hD : va_D A [(m0, .inr (5, [.int (nI tw), .int (nI cb), .ref kO, .ref lO, .int (nI tu), .int (nI ak), .int (nI se), .ref sC, .ref sW, .ref sD, .int (nI pl), .ref pG, .int iw, .int (nI nc), .ref wO, .ref fO, .ref mO, .ref cO, .long sn, .ref th, .int ik, .int (nI kt), .int (nI ku), .int (nI ks), .ref kK, .ref kL, .ref kC, .ref kW, .ref kD, .long hh])), (mO, .inl (cy 0, 3, .inl (fun j => nI ((va_up mn J (mn J + 1)) j)))), (wO, .inl (cy 0, 72, .inl (upd w1 (24 * J + mn J) wI))), (fO, .inl (cy 0, 72, .inl (upd w2 (24 * J + mn J) fI)))] := hD
        have hP9 := hP.sub (ws' := [(m0, .inr (5, [.int (nI tw), .int (nI cb), .ref kO, .ref lO, .int (nI tu), .int (nI ak), .int (nI se), .ref sC, .ref sW, .ref sD, .int (nI pl), .ref pG, .int iw, .int (nI nc), .ref wO, .ref fO, .ref mO, .ref cO, .long sn, .ref th, .int ik, .int (nI kt), .int (nI ku), .int (nI ks), .ref kK, .ref kL, .ref kC, .ref kW, .ref kD, .long hh])), (mO, .inl (cy 0, 3, .inl (fun j => nI ((va_up mn J (mn J + 1)) j)))), (wO, .inl (cy 0, 72, .inl (upd w1 (24 * J + mn J) wI))), (fO, .inl (cy 0, 72, .inl (upd w2 (24 * J + mn J) fI)))]) [0, 1, 2, 3] rfl
        have hD9 := hD.sub (ws' := [(m0, .inr (5, [.int (nI tw), .int (nI cb), .ref kO, .ref lO, .int (nI tu), .int (nI ak), .int (nI se), .ref sC, .ref sW, .ref sD, .int (nI pl), .ref pG, .int iw, .int (nI nc), .ref wO, .ref fO, .ref mO, .ref cO, .long sn, .ref th, .int ik, .int (nI kt), .int (nI ku), .int (nI ks), .ref kK, .ref kL, .ref kC, .ref kW, .ref kD, .long hh])), (mO, .inl (cy 0, 3, .inl (fun j => nI ((va_up mn J (mn J + 1)) j)))), (wO, .inl (cy 0, 72, .inl (upd w1 (24 * J + mn J) wI))), (fO, .inl (cy 0, 72, .inl (upd w2 (24 * J + mn J) fI)))]) [0, 1, 2, 3] (by decide +kernel) rfl
        exact W.vret hx hb hr (fun t9 ht9 hW9 => ⟨⟨[(m0, .inr (5, [.int (nI tw), .int (nI cb), .ref kO, .ref lO, .int (nI tu), .int (nI ak), .int (nI se), .ref sC, .ref sW, .ref sD, .int (nI pl), .ref pG, .int iw, .int (nI nc), .ref wO, .ref fO, .ref mO, .ref cO, .long sn, .ref th, .int ik, .int (nI kt), .int (nI ku), .int (nI ks), .ref kK, .ref kL, .ref kC, .ref kW, .ref kD, .long hh])), (mO, .inl (cy 0, 3, .inl (fun j => nI ((va_up mn J (mn J + 1)) j)))), (wO, .inl (cy 0, 72, .inl (upd w1 (24 * J + mn J) wI))), (fO, .inl (cy 0, 72, .inl (upd w2 (24 * J + mn J) fI)))], rfl, ⟨(va_up mn J (mn J + 1)), (upd w1 (24 * J + mn J) wI), (upd w2 (24 * J + mn J) fI), rfl, (by rw [show va_up mn J (mn J + 1) J = mn J + 1 from if_pos rfl]; exact WS_add hws hgw hI9), (by rw [show va_up mn J (mn J + 1) J = mn J + 1 from if_pos rfl]; omega), (by rw [show va_up mn J (mn J + 1) J = mn J + 1 from if_pos rfl]; omega), (fun j hj => if_neg hj), (fun i hi => if_neg (by omega)), (Or.inr ⟨hI9, hn24, rfl, rfl, rfl⟩)⟩, by rw [ht9]; exact hP9, hD9⟩, hS.F ht9⟩) hS.2.2 dX5_take_81
      · have hkl : k < mn J := nI_ltN (by have h9 := hws.1; omega) c_11
        have h24 := hws.1
        refine lv_aload_n hx hb dX5_take_14 rfl (lv_at hl 0 rfl) ?_
        refine va_get (D := D) (ci := 5) (v := .ref wO) (C := RX5) (T := TX5) (N := 30) hx hb hts hw_X5 hown hK hP 0 rfl rfl 14 (by decide) f_29 (fun _ h9 => h9) rfl dX5_take_15 ?_
        refine lv_bipush (v := 24) hx hb dX5_take_18 (by decide) ?_
        refine lv_iload_n hx hb dX5_take_20 rfl (lv_at hl 1 rfl) ?_
        refine lv_imul hx hb dX5_take_21 ?_
        refine lv_topi (fun y10 ey10 => ?_)
        obtain rfl : y10 = nI (24 * J) := ey10.trans (nIm 24 J)
        refine lv_iload hx hb dX5_take_22 (lv_at hl 4 rfl) ?_
        refine lv_iadd hx hb dX5_take_24 ?_
        refine lv_topi (fun y11 ey11 => ?_)
        obtain rfl : y11 = nI (24 * J + k) := ey11.trans (nIa _ _)
        refine va_iald hx hb hK hP 2 0 rfl rfl (nI_in (by omega) (by decide)) dX5_take_25 ?_
        refine lv_topi (fun y12 ey12 => ?_)
        obtain rfl : y12 = w1 (24 * J + k) := ey12.trans (congrArg w1 (nI_clamp (by omega)))
        refine lv_iload_n hx hb dX5_take_26 rfl (lv_at hl 2 rfl) ?_
        refine lv_icmp_ne (tgt := 31) hx hb dX5_take_27 (by decide) (fun c_27 => ?_) (fun c_27 => ?_)
        · refine lv_iinc (v := nI (k + 1)) (lv' := [(4, .int (nI (k + 1))), (0, .ref m0), (1, .int (nI J)), (2, .int wI), (3, .int fI)]) hx hb dX5_take_31 hl (k := 4) rfl ((nI_succ k).symm) (by decide) rfl (fun ls hl => ?_)
          refine lv_goto (tgt := 3) hx hb dX5_take_34 (by decide) ?_
          exact ih_3 (k + 1) (by omega) (fun i h => (Nat.lt_succ_iff_lt_or_eq.mp h).elim (hI i) (fun q => by rw [q]; exact c_27)) (by omega) _ _ _ (hP.sub [0, 1, 2, 3] rfl) (hD.sub [0, 1, 2, 3] (by decide +kernel) rfl) hS (lv_sub hl [1, 2, 3, 4, 0] rfl)
        · have hP9 := hP.sub (ws' := [(m0, .inr (5, [.int (nI tw), .int (nI cb), .ref kO, .ref lO, .int (nI tu), .int (nI ak), .int (nI se), .ref sC, .ref sW, .ref sD, .int (nI pl), .ref pG, .int iw, .int (nI nc), .ref wO, .ref fO, .ref mO, .ref cO, .long sn, .ref th, .int ik, .int (nI kt), .int (nI ku), .int (nI ks), .ref kK, .ref kL, .ref kC, .ref kW, .ref kD, .long hh])), (mO, .inl (cy 0, 3, .inl (fun j => nI (mn j)))), (wO, .inl (cy 0, 72, .inl w1)), (fO, .inl (cy 0, 72, .inl w2))]) [0, 1, 2, 3] rfl
          have hD9 := hD.sub (ws' := [(m0, .inr (5, [.int (nI tw), .int (nI cb), .ref kO, .ref lO, .int (nI tu), .int (nI ak), .int (nI se), .ref sC, .ref sW, .ref sD, .int (nI pl), .ref pG, .int iw, .int (nI nc), .ref wO, .ref fO, .ref mO, .ref cO, .long sn, .ref th, .int ik, .int (nI kt), .int (nI ku), .int (nI ks), .ref kK, .ref kL, .ref kC, .ref kW, .ref kD, .long hh])), (mO, .inl (cy 0, 3, .inl (fun j => nI (mn j)))), (wO, .inl (cy 0, 72, .inl w1)), (fO, .inl (cy 0, 72, .inl w2))]) [0, 1, 2, 3] (by decide +kernel) rfl
          exact W.vret hx hb hr (fun t9 ht9 hW9 => ⟨⟨[(m0, .inr (5, [.int (nI tw), .int (nI cb), .ref kO, .ref lO, .int (nI tu), .int (nI ak), .int (nI se), .ref sC, .ref sW, .ref sD, .int (nI pl), .ref pG, .int iw, .int (nI nc), .ref wO, .ref fO, .ref mO, .ref cO, .long sn, .ref th, .int ik, .int (nI kt), .int (nI ku), .int (nI ks), .ref kK, .ref kL, .ref kC, .ref kW, .ref kD, .long hh])), (mO, .inl (cy 0, 3, .inl (fun j => nI (mn j)))), (wO, .inl (cy 0, 72, .inl w1)), (fO, .inl (cy 0, 72, .inl w2))], rfl, ⟨mn, w1, w2, rfl, hws, (Nat.le_refl _), (by omega), (fun _ _ => rfl), (fun _ _ => rfl), (Or.inl ⟨⟨k, hkl, c_27⟩, rfl, rfl, rfl⟩)⟩, by rw [ht9]; exact hP9, hD9⟩, hS.F ht9⟩) hS.2.2 dX5_take_30
  exact lp_3 25 0 (Nat.zero_le _) (fun i h => absurd h (Nat.not_lt_zero i)) (by omega) _ _ _ (hP.sub [0, 1, 2, 3] rfl) (hD.sub [0, 1, 2, 3] (by decide +kernel) rfl) hS (lv_sub hl [1, 2, 3, 4, 0] rfl)
